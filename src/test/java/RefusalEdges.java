import java.util.function.Supplier;

/** What is refused changes nothing, and what only asks changes nothing, whatever later calls ask. */
final class RefusalEdges {
    private static final int BAD = Run.BAD, STATE = Run.STATE, FULL = Run.FULL;
    /** A beacon, a buoy, a shoal; three legs; two heights. */
    private static final String SHEET = "h3,10,12;t8,20;z30,40;b30,45,1,2;u5,6,0,0;s18,14,2,9;g2m4;g4i0,1;g6d3;";

    /** A sheet, an image, three acts, a fault, two bytes on the tape. */
    private static final Supplier<Run> LIVELY = () -> Run.of(SHEET).due("image(0)", 1).due("measure(1, 0, 7)", 5).due("steer(2, 9)", 6)
        .due("until(0, 2, 3, 4)", 0).dueSheet("h21", -1000101).tell("sw");
    private static final Supplier<Run> NO_ACT = () -> Run.of(SHEET).due("image(1)", 1).dueSheet("h21", -1000101).tell("sw");
    private static final Supplier<Run> NO_SHEET = () -> Run.fresh().dueSheet("h21", -1000101).tell("sw");
    private static final Supplier<Run> ONE_LEG = () -> Run.of("h3,10,12;t8;z30,40;b30,45,1,2;g2i0,1;").due("image(1)", 1)
        .due("ship(0, 4)", 3).tell("sw");
    private static final Supplier<Run> SIX_LEGS = () -> Run.of("h3,10,12;t8;z30,40;b30,45,1,2;g0m1;g1m2;g2m3;g3m4;g4m5;g5m6;")
        .due("ship(0, 4)", 3).tell("sw");
    private static final Supplier<Run> SEVEN_MARKS = () -> Run.of("h0,30,60;t0;z0,0;" + "b9,9,0,0;".repeat(7)
        + "g0i0,1;g0i2,3;g0i4,5;g0a6;").due("ship(0, 4)", 0).tell("sw");

    private RefusalEdges() {
    }

    static void all() {
        told();
        measures();
        legs();
        questions();
        noSheet();
        fullTape();
        twentyActs();
        asksOnly();
    }

    private static void told() {
        Edge.refused(2, LIVELY, BAD, "feed(-1)", "feed(256)");
        Edge.refused(6, NO_ACT, STATE, "undo()");
        Edge.refused(34, LIVELY, BAD, "image(-1)", "image(2)");
        Edge.refused(35, LIVELY, BAD, "restore(-1)", "restore(2)");
        Edge.refused(35, LIVELY, STATE, "restore(1)");
        Edge.refused(35, NO_ACT, STATE, "restore(0)");
        Edge.refused(36, LIVELY, BAD, "count(-1)", "count(7)");
    }

    private static void measures() {
        Edge.refused(7, LIVELY, BAD, "measure(-1, 0, 1)", "measure(3, 0, 1)", "measure(0, -1, 1)", "measure(0, 4, 1)", "measure(0, 0, -1)",
            "measure(0, 0, 61)",
            "measure(0, 1, -1)", "measure(0, 1, 61)", "measure(0, 2, -1)", "measure(0, 2, 16)", "measure(0, 3, -1)", "measure(0, 3, 21)");
        Edge.refused(8, LIVELY, BAD, "become(-1, 1)", "become(3, 1)", "become(0, 0)", "become(0, 7)");
        Edge.refused(8, LIVELY, STATE, "become(0, 1)", "become(1, 3)", "become(2, 4)");
        Edge.refused(9, LIVELY, BAD, "ship(-1, 0)", "ship(5, 0)", "ship(0, -1)", "ship(0, 21)", "ship(1, -1)", "ship(1, 61)",
            "ship(2, -1)", "ship(2, 61)",
            "ship(3, -1)", "ship(3, 61)", "ship(4, -1)", "ship(4, 61)");
        Edge.refused(10, LIVELY, BAD, "tide(-1, 1)", "tide(2, 1)", "tide(0, -1)", "tide(0, 21)", "tide(1, 21)");
    }

    private static void legs() {
        Edge.refused(11, LIVELY, BAD, "steer(-1, 0)", "steer(3, 0)", "steer(0, -1)", "steer(0, 16)");
        Edge.refused(12, LIVELY, BAD, "until(-1, 0, 1, 0)", "until(3, 0, 1, 0)", "until(0, -1, 1, 0)", "until(0, 5, 1, 0)",
            "until(0, 0, 0, 0)", "until(0, 0, 61, 0)",
            "until(0, 1, -1, 0)", "until(0, 1, 8, 0)", "until(0, 2, -1, 0)", "until(0, 2, 8, 0)", "until(0, 2, 0, -1)",
            "until(0, 2, 0, 8)", "until(1, 2, 5, 8)",
            "until(0, 3, -1, 0)", "until(0, 3, 8, 0)", "until(0, 4, -1, 0)", "until(0, 4, 61, 0)");
        Edge.refused(13, LIVELY, BAD, "add(-1, 0, 0, 1, 0)", "add(4, 0, 0, 1, 0)", "add(0, -1, 0, 1, 0)", "add(0, 16, 0, 1, 0)",
            "add(0, 0, -1, 1, 0)", "add(0, 0, 5, 1, 0)",
            "add(0, 0, 0, 0, 0)", "add(0, 0, 0, 61, 0)", "add(0, 0, 1, 8, 0)", "add(0, 0, 2, 8, 0)", "add(0, 0, 2, 0, -1)",
            "add(0, 0, 2, 0, 8)", "add(0, 0, 3, 8, 0)",
            "add(0, 0, 4, 61, 0)");
        Edge.refused(13, SIX_LEGS, FULL, "add(0, 9, 0, 9, 0)", "add(1, 9, 2, 7, 7)", "add(6, 9, 0, 9, 0)");
        Edge.refused(13, SIX_LEGS, BAD, "add(7, 9, 0, 9, 0)", "add(0, 16, 0, 9, 0)");
        Edge.refused(14, LIVELY, BAD, "cut(-1)", "cut(3)");
        Edge.refused(14, ONE_LEG, STATE, "cut(0)");
        Edge.refused(14, ONE_LEG, BAD, "cut(1)");
    }

    private static void questions() {
        Edge.refused(15, LIVELY, BAD, "thing(3, 0)", "thing(0, 5)");
        Edge.refused(16, LIVELY, BAD, "leg(3, 0)", "leg(0, 4)");
        Edge.refused(17, LIVELY, BAD, "height(-1)", "height(10000)");
        Edge.refused(18, LIVELY, BAD, "water(61, 0, 0)", "water(0, 0, 2)");
        Edge.refused(19, LIVELY, BAD, "mark(3, 0, 0)", "mark(0, 10000, 0)");
        Edge.refused(19, LIVELY, STATE, "mark(2, 0, 0)");
        Edge.refused(20, LIVELY, BAD, "seen(3, 0, 0, 0)", "seen(0, 61, 0, 0)");
        Edge.refused(20, LIVELY, STATE, "seen(2, 0, 0, 0)");
        Edge.refused(21, LIVELY, BAD, "line(0, 0, 0, 0)", "line(0, 1, 61, 0)");
        Edge.refused(22, LIVELY, BAD, "lines(0, 0, 0)", "lines(0, 1, 3)");
        Edge.refused(21, SEVEN_MARKS, STATE, "line(0, 1, 0, 0)");
        Edge.refused(22, SEVEN_MARKS, STATE, "lines(0, 1, 0)");
        Edge.refused(23, LIVELY, BAD, "sail(100, 0)", "sail(0, 7)");
        Edge.refused(24, LIVELY, BAD, "track(100, 0, 0)", "track(0, -1, 0)");
        Edge.refused(25, LIVELY, BAD, "why(100, 0, 0)", "why(0, -1, 0)");
        Edge.refused(26, LIVELY, BAD, "sign(100, 0)", "sign(0, -1)");
        Edge.refused(28, LIVELY, BAD, "deepest(-1)", "deepest(100)");
        Edge.refused(29, LIVELY, BAD, "courses(3, 0)", "courses(0, 100)");
        Edge.refused(30, LIVELY, BAD, "needed(-1)", "needed(100)");
        Edge.refused(31, LIVELY, BAD, "near(3, 0)", "near(0, 100)");
        Edge.refused(32, LIVELY, BAD, "out(0, 11, 0)", "out(100, 0, 0)");
        Edge.refused(32, SEVEN_MARKS, FULL, "out(0, 1, 0)", "out(0, 1, 1)");
        Edge.refused(33, LIVELY, BAD, "drawn(13, 1, 0)", "drawn(1, 0, 0)");
    }

    private static void noSheet() {
        Edge.refused(6, NO_SHEET, STATE, "undo()");
        Edge.refused(9, NO_SHEET, STATE, "ship(0, 1)", "ship(1, 1)", "ship(4, 1)");
        Edge.refused(13, NO_SHEET, STATE, "add(0, 0, 0, 1, 0)");
        Edge.refused(34, NO_SHEET, STATE, "image(0)", "image(1)");
        Edge.refused(35, NO_SHEET, STATE, "restore(0)", "restore(1)");
        Edge.refused(7, NO_SHEET, BAD, "measure(0, 0, 1)");
        Edge.refused(8, NO_SHEET, BAD, "become(0, 1)");
        Edge.refused(10, NO_SHEET, BAD, "tide(0, 1)");
        Edge.refused(11, NO_SHEET, BAD, "steer(0, 1)");
        Edge.refused(12, NO_SHEET, BAD, "until(0, 0, 1, 0)");
        Edge.refused(14, NO_SHEET, BAD, "cut(0)");
        Edge.test(1, "What is refused changes nothing.", () -> Run.fresh().due("ship(0, 7)", STATE).due("add(0, 3, 0, 7, 0)", STATE)
            .due("image(0)", STATE).due("tide(0, 9)", BAD)
            .due("measure(0, 0, 9)", BAD).told("h3,10,12;t8;z30,40;g2m4;").due("restore(0)", STATE).dueRow("count(*)", 0, 0, 0, 1, 1, 0, 0)
            .due("ship(0, 0)", 3));
    }

    private static void fullTape() {
        String longest = "h20,60,60;t20,20,20,20,20,20;z60,60;" + "k60,60,15,20;".repeat(8) + "g15m60;g15m60;g15a7;";
        Edge.test(2, "What is refused changes nothing.", () -> Run.fresh().tell(longest).due("feed(48)", FULL).due("feed(-1)", BAD)
            .due("feed(256)", BAD).due("feed(59)", FULL)
            .due("count(6)", 160).due("sheet()", 3).due("leg(2, 2)", 7).due("thing(0, 1)", 60).due("fault()", 0));
    }

    private static void twentyActs() {
        for (String call : new String[] {"measure(0, 0, 61)", "become(0, 1)", "become(0, 7)", "ship(0, 21)", "tide(1, 1)", "steer(0, 16)",
            "until(0, 0, 61, 0)", "add(0, 16, 0, 1, 0)",
            "cut(0)", "cut(1)", "restore(1)", "image(2)", "image(0)", "times()", "drawn(12, 1, 0)", "needed(0)"}) {
            Edge.test(6, "20 at most are kept, of more the oldest is forgotten", () -> {
                Run run = Run.of("h3,10,12;t8;z30,40;b1,1,1,1;g2m4;");
                for (int i = 1; i <= 20; i++) {
                    run.ask("ship(1, " + i + ")");
                }
                run.ask(call);
                for (int left = 19; left >= 0; left--) {
                    run.due("undo()", left).due("track(0, 0, 0)", left == 0 ? 10 : left);
                }
                run.due("undo()", STATE);
            });
        }
    }

    private static void asksOnly() {
        Edge.changesNothing(4, "The number of the latest FAULT", LIVELY, "fault()");
        Edge.changesNothing(15, "Of a THING", LIVELY, "thing(0, 0)");
        Edge.changesNothing(16, "Of a LEG", LIVELY, "leg(1, 3)");
        Edge.changesNothing(36, "How many", LIVELY, "count(5)", "count(6)");
        Edge.changesNothing(17, "HEIGHT at minute m (0 to 9999)", LIVELY, "height(5)");
        Edge.changesNothing(18, "Of a place in THE CHART", LIVELY, "water(18, 14, 0)", "water(18, 14, 1)");
        Edge.changesNothing(19, "PLACE of a MARK", LIVELY, "mark(1, 5, 0)");
        Edge.changesNothing(20, "Whether a MARK is SEEN", LIVELY, "seen(1, 5, 5, 5)");
        Edge.changesNothing(21, "Whether a place in THE CHART lies left", LIVELY, "line(0, 1, 5, 5)");
        Edge.changesNothing(22, "SHOALS (bits)", LIVELY, "lines(0, 1, 2)");
        String words = "FORETOLD (nothing changes): what VOYAGES would be.";
        Edge.changesNothing(23, words, LIVELY, "sail(0, 0)", "sail(99, 5)");
        Edge.changesNothing(24, words, LIVELY, "track(0, 1, 0)");
        Edge.changesNothing(25, words, LIVELY, "why(0, 0, 0)");
        Edge.changesNothing(26, words, LIVELY, "sign(0, 0)");
        Edge.changesNothing(27, words, LIVELY, "times()");
        Edge.changesNothing(28, words, LIVELY, "deepest(0)", "deepest(99)");
        Edge.changesNothing(29, words, LIVELY, "courses(0, 0)", "courses(2, 99)");
        Edge.changesNothing(30, words, LIVELY, "needed(0)", "needed(99)");
        Edge.changesNothing(31, words, LIVELY, "near(0, 0)");
        Edge.changesNothing(32, words, LIVELY, "out(0, 5, 0)", "out(0, 10, 1)");
        Edge.changesNothing(33, words, LIVELY, "drawn(12, 999999, 0)", "drawn(12, 1, 1)");
    }
}
