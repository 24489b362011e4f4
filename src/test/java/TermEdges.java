/** The sentences of the terms that name no boundary case, each by a test of its own, in the document's order. */
final class TermEdges {
    private static final int NONE = Run.NONE, BAD = Run.BAD, STATE = Run.STATE, FULL = Run.FULL;
    private static final int[] EAST = {0, 1, 1, 2, 1, 2, 1, 1, 0, -1, -1, -2, -1, -2, -1, -1};
    private static final int[] NORTH = {1, 2, 1, 1, 0, -1, -1, -2, -1, -2, -1, -1, 0, 1, 1, 2};
    private static final String[] NAMES = {"n", "nne", "ne", "ene", "e", "ese", "se", "sse", "s", "ssw", "sw", "wsw", "w", "wnw", "nw", "nnw"};

    private TermEdges() {
    }

    static void all() {
        numbers();
        refusals();
        tape();
        courses();
        chart();
        voyages();
        foretold();
    }

    private static void numbers() {
        Edge.test(15, "Numbers go from 0 on.", () -> Run.of("h1,2,3;t4,5;z6,7;b8,9,10,11;g12m13;g14d15;").dueRow("thing(0, *)", 1, 8, 9, 10, 11)
            .due("leg(0, 0)", 12).due("leg(1, 0)", 14).due("track(0, 0, 0)", 2).due("tide(0, 4)", 4).due("tide(1, 5)", 5)
            .dueAll(BAD, "thing(-1, 0)", "thing(1, 0)", "leg(-1, 0)", "leg(2, 0)", "tide(2, 0)", "track(0, -1, 0)", "why(0, -1, 0)",
            "sign(0, -1)"));
        Edge.test(17, "All that is divided is cut towards 0, but", () -> Run.of("h0,0,0;t19,0;z0,0;u10,10,0,0;g0m1;").due("height(1)", 18)
            .due("height(9)", 2).due("mark(0, 0, 0)", 14).due("mark(0, 1, 0)", 14).due("mark(0, 9, 0)", 10));
        Edge.test(22, "Sets are bits.", () -> Run.of("h0,0,0;t0;z0,0;b10,10,0,0;b10,20,0,0;s5,5,1,1;r30,30,1,1;k4,40,2,2;s10,50,1,1;g0m1;")
            .due("lines(0, 1, 0)", 1 << 2 | 1 << 4).due("lines(0, 1, 1)", 1 << 3).due("lines(0, 1, 2)", 1 << 5).due("times()", (1 << 30) - 1));
    }

    private static void refusals() {
        String words = "Refusals are answers, the first of these that fits, but as told: BAD (a number is not as told; there is no such thing),"
            + " STATE (as told), FULL (as told).";
        Edge.test(8, words, () -> Run.of("h0,0,0;t0;z0,0;b1,1,0,0;g0m1;").due("become(0, 1)", STATE).due("become(0, 7)", BAD)
            .due("become(1, 1)", BAD));
        Edge.test(13, words, () -> Run.of("h0,0,0;t0;z0,0;" + "g0m1;".repeat(6)).due("add(0, 0, 0, 1, 0)", FULL).due("add(7, 0, 0, 1, 0)", BAD)
            .due("add(0, 16, 0, 1, 0)", BAD).due("add(0, 0, 0, 61, 0)", BAD));
        Edge.test(19, words, () -> Run.of("h0,0,0;t0;z0,0;s1,1,0,0;g0m1;").due("mark(0, 0, 0)", STATE).due("mark(0, 0, 2)", BAD)
            .due("mark(0, 10000, 0)", BAD).due("seen(0, 61, 0, 0)", BAD).due("seen(0, 0, 0, 0)", STATE));
        Edge.test(34, words, () -> Run.fresh().due("image(0)", STATE).due("image(2)", BAD).due("restore(2)", BAD).due("restore(1)", STATE));
    }

    private static void tape() {
        Edge.test(2, "that come one by one; TOKENS:", () -> Run.fresh().due("feed(110)", 1).due("feed(101)", 2).due("count(6)", 2)
            .due("course()", 2));
        Edge.test(16, "its sorts 0 to 4 in this order.", () -> Run.of("h0,0,0;t0;z0,0;g0m6;g1a5;g2i4,3;g3e2;g4d1;").dueRow("leg(*, 1)", 0, 1, 2, 3, 4)
            .dueRow("leg(*, 2)", 6, 5, 4, 2, 1).dueRow("leg(*, 3)", NONE, NONE, 3, NONE, NONE));
        Edge.test(4, "or is none (", () -> Run.fresh().dueSheet("h3,10,10;t4;z30,30;?", -1000119).due("fault()", 1).dueSheet("h3 ,10", -1000102)
            .due("fault()", 1).dueSheet("h1000", -1000101).due("fault()", 1));
        Edge.test(4, "2 a NUMBER that is not as told;", () -> Run.fresh().dueSheet("h21,0,0;", -1000101).due("fault()", 2)
            .dueSheet("h20,0,0;t0;z0,0;g0m0;", -1000119).due("fault()", 2).dueSheet("h20,0,0;t0;z0,0;g16m1;", -1000117).due("fault()", 2));
    }

    private static void courses() {
        String table = "0 (0, 1) n, 1 (1, 2) nne, 2 (1, 1) ne, 3 (2, 1) ene, 4 (1, 0) e, 5 (2, -1) ese, 6 (1, -1) se, 7 (1, -2) sse, 8 (0, -1) s,"
            + " 9 (-1, -2) ssw, 10 (-1, -1) sw, 11 (-2, -1) wsw, 12 (-1, 0) w, 13 (-2, 1) wnw, 14 (-1, 1) nw, 15 (-1, 2) nnw.";
        for (int course = 0; course < NAMES.length; course++) {
            int c = course;
            Edge.test(5, "and their NAMES: " + table, () -> Run.fresh().dueCourse(NAMES[c], c));
            Edge.test(24, "COURSES 0 .. 15, by which the ship goes in a minute (to the east, to the north), and their NAMES:", () ->
                Run.of("h0,30,30;t0;z0,0;g" + c + "m3;").dueRow("track(0, 1, *)", 30 + EAST[c], 30 + NORTH[c], 0)
                    .dueRow("track(0, 3, *)", 30 + 3 * EAST[c], 30 + 3 * NORTH[c], 0));
            Edge.test(26, "the NAME of its COURSE in great letters (A to Z)", () -> Run.of("h0,30,30;t0;z30,30;g" + c + "m1;")
                .dueLog(0, NAMES[c].toUpperCase() + "1;."));
        }
    }

    private static void chart() {
        Edge.test(24, "X grows to the east, Y to the north;", () -> Run.of("h0,30,30;t0;z0,0;g4m1;g0m1;g12m2;g8m2;").dueRow("track(0, 1, *)", 31, 30)
            .dueRow("track(0, 2, *)", 31, 31).dueRow("track(0, 4, *)", 29, 31).dueRow("track(0, 6, *)", 29, 29));
        Edge.test(17, "HEIGHT at minute m (0 on):", () -> Run.of("h0,0,0;t6,9;z0,0;g0m1;").due("height(0)", 6).due("height(4)", 7)
            .due("height(14)", 8));
        Edge.test(17, "with c the one whose number m by 10 (cut) leaves by how many there are, d the next one: c, and (d less c) times what m leaves"
            + " by 10,", () -> Run.of("h0,0,0;t2,12,7;z0,0;g0m1;").due("height(5)", 7).due("height(15)", 10).due("height(25)", 5)
            .due("height(35)", 7).due("height(30)", 2).due("height(9999)", 11));
        Edge.test(18, "A place lies in a shoal, a rock, if it is A or less far from its place (", () -> Run.of("h0,0,0;t0;z0,0;s10,10,2,5;r30,10,2,5;g0m1;")
            .dueAll(5, "water(10, 10, 0)", "water(12, 10, 0)", "water(11, 11, 0)").dueAll(-5, "water(30, 10, 0)", "water(30, 8, 0)")
            .dueAll(40, "water(13, 10, 0)", "water(12, 11, 0)", "water(28, 9, 0)"));
        Edge.test(18, "CHARTED depth of a place:", () -> Run.of("h0,0,0;t9;z0,0;s10,10,2,5;g0m1;").due("water(10, 10, 0)", 5).due("water(20, 20, 0)", 40));
        Edge.test(23, "WATER at a place, at minute m: CHARTED depth and HEIGHT, together.", () -> Run.of("h3,30,30;t9;z0,0;s30,31,0,5;g0m1;")
            .due("sail(0, 5)", 11).due("tide(0, 20)", 9).due("sail(0, 5)", 22).due("become(0, 5)", 4).due("sail(0, 5)", 12));
        Edge.test(36, "MARKS are beacons, lights, buoys.", () -> Run.of("h0,0,0;t0;z0,0;b1,1,0,0;l1,1,0,0;u1,1,0,0;s1,1,0,0;r1,1,0,0;k1,1,0,0;g0m1;")
            .due("count(1)", 3).dueAll(1, "mark(0, 0, 0)", "mark(1, 0, 0)", "mark(2, 0, 0)")
            .dueAll(STATE, "mark(3, 0, 0)", "mark(4, 0, 0)", "mark(5, 0, 0)"));
        Edge.test(20, "SECTOR of a light:", () -> Run.of("h0,0,0;t0;z0,0;l30,30,0,4;b30,31,0,4;u30,31,0,4;g0m1;").dueAll(0, "seen(0, 29, 31, 0)",
            "seen(0, 30, 29, 0)").dueAll(1, "seen(0, 30, 31, 0)", "seen(0, 60, 31, 0)", "seen(1, 29, 31, 0)", "seen(2, 29, 31, 0)"));
        Edge.test(20, "A place lies in it, if the direction from the light to it is in it,", () -> Run.of("h0,0,0;t0;z0,0;l30,30,2,6;g0m1;")
            .dueAll(1, "seen(0, 31, 31, 0)", "seen(0, 60, 30, 0)", "seen(0, 60, 1, 0)").dueAll(0, "seen(0, 0, 30, 0)", "seen(0, 30, 60, 0)",
            "seen(0, 31, 29, 0)", "seen(0, 30, 0, 0)"));
        Edge.test(20, "SEEN from a place at minute m", () -> Run.of("h0,0,0;t0,20;z0,0;u10,10,0,0;g0m1;").due("seen(0, 0, 10, 0)", 1)
            .due("seen(0, 0, 10, 10)", 0).due("seen(0, 25, 10, 0)", 0).due("seen(0, 25, 10, 10)", 1));
    }

    private static void voyages() {
        Edge.test(23, "The UNTIL has come:", () -> Run.of("h0,30,30;t0;z30,35;b31,34,0,0;l31,33,0,4;g0m5;").due("sail(0, 0)", 5)
            .due("until(0, 1, 0, 0)", 0).due("sail(0, 0)", 4).due("until(0, 2, 0, 1)", 1).due("sail(0, 0)", 31).due("until(0, 3, 1, 0)", 2)
            .due("sail(0, 0)", 31).due("until(0, 4, 40, 0)", 3).due("sail(0, 0)", 1));
        Edge.test(23, "the UNTIL has come: the LEG is DONE;", () -> Run.of("h0,30,30;t0;z30,35;g0m2;g0d40;g0m60;").due("sail(0, 3)", 2)
            .due("until(2, 0, 2, 0)", 0).due("sail(0, 3)", 3).due("sail(0, 4)", 1));
        Edge.test(25, "WHY she does not arrive: causes, the outer ones first, each of a kind, with a number:", () ->
            Run.of("h9,30,30;t0,20;z30,40;s30,45,9,3;g0m60;").dueWhy(15, "1:0 2:6 4:0 6:4").due("ship(0, 0)", 9).due("until(0, 0, 10, 0)", 0)
                .dueWhy(15, ""));
        Edge.test(25, "by 9 MISTAKEN, T or U; or", () -> Run.of("h0,30,30;t0;z0,0;b1,1,0,0;g0m1;g0i0,6;").dueWhy(0, "1:1 9:6")
            .due("until(1, 2, 5, 6)", 2).dueWhy(0, "1:1 9:5"));
        Edge.test(25, "WHY, of a VOYAGE from minute t on:", () -> Run.of("h9,30,30;t0,20;z30,40;s30,35,0,3;g0m10;").dueWhy(4, "")
            .dueWhy(15, "1:0 2:5 4:0 6:6").dueWhy(14, "1:0 2:5 4:0 6:4"));
    }

    private static void foretold() {
        String sheet = "h0,30,30;t0;z30,35;b31,35,0,0;g0a0;";
        Edge.test(32, "above (what = 0), below (1).", () -> Run.of(sheet).due("out(0, 4, 0)", 3).due("out(0, 4, 1)", 5).due("out(0, 5, 0)", 1)
            .due("out(0, 5, 1)", 2));
        Edge.test(33, "by a SEED (X at first):", () -> Run.of("h0,30,30;t0;z30,31;s30,31,0,10;g0m1;")
            .due("drawn(1, 1, 0)", drawnDraught(1) <= 10 ? 1 : 0).due("drawn(1, 2, 0)", drawnDraught(2) <= 10 ? 1 : 0)
            .due("drawn(1, 999999, 0)", drawnDraught(999999) <= 10 ? 1 : 0));
        Edge.test(33, "how often she ARRIVES (what = 0),", () -> Run.of(sheet).dueRow("drawn(*, 7, 0)", 0, 1, 2, 3, 4).due("measure(0, 1, 60)", 35)
            .dueRow("drawn(*, 7, 0)", 0, 0, 0, 0));
        Edge.test(12, "of what sort it was. BAD.", () -> Run.of(sheet).due("until(0, 4, 60, 0)", 1).due("until(0, 4, 60, 0)", 4)
            .due("until(0, 3, 0, 0)", 4).due("until(0, 2, 0, 0)", 3).due("until(0, 0, 1, 0)", 2).due("until(0, 0, 0, 0)", BAD)
            .due("until(0, 1, 0, 0)", 0));
        Edge.test(35, "(no ACT can be undone then): 1.", () -> Run.of(sheet).due("image(1)", 1).due("ship(0, 5)", 0).due("restore(1)", 1)
            .due("count(5)", 0).due("undo()", STATE).due("ship(0, 5)", 0));
    }

    private static long drawnDraught(long seed) {
        return seed * 16807 % 2147483647L / 128 % 21;
    }
}
