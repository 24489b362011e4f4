/** The edges of the document's part 1: the tape, the sheet, faults; promises 1 to 5. */
final class TapeEdges {
    private static final int NONE = Run.NONE, BAD = Run.BAD, STATE = Run.STATE, FULL = Run.FULL;
    private static final int FAULT_BASE = -1000100;
    private static final String SHIP = "h3,10,10;";
    private static final String HEAD = SHIP + "t4;z30,30;";
    private static final String LEG = "g0m1;";
    private static final String THING = "b1,2,3,4;";
    private static final String LEAST_SHEET = "h0,0,0;t0;z0,0;g0m1;";
    private static final String RICH = "h12,34,56;t10,11;z20,30;b40,50,12,13;l1,2,3,4;g14i5,6;g7m15;";
    /** All that a tape has room for: 160 bytes. */
    private static final String LONGEST = "h20,60,60;t20,20,20,20,20,20;z60,60;" + "k60,60,15,20;".repeat(8)
        + "g15m60;g15m60;g15a7;";

    private TapeEdges() {
    }

    static void all() {
        newObject();
        bytes();
        tokens();
        shipOfSheet();
        tideOfSheet();
        harbourOfSheet();
        thingsOfSheet();
        legsOfSheet();
        untilsOfSheet();
        faultsCannotStand();
        faultsFirstAndLeast();
        faultsOfTheEnd();
        sheetInPlace();
        sheetWithFault();
        faultNumbers();
        courseNames();
    }

    private static void newObject() {
        Edge.test(1, "No SHEET.", () -> Run.fresh().dueRow("count(*)", 0, 0, 0, 0, 0, 0, 0));
        Edge.test(1, "No SHEET.", () -> Run.fresh().dueAll(STATE, "ship(0, 0)", "add(0, 0, 0, 1, 0)", "height(0)",
            "water(0, 0, 0)", "sail(0, 0)", "track(0, 0, 0)", "why(0, 0, 0)", "sign(0, 0)", "times()", "deepest(0)",
            "needed(0)", "out(0, 0, 0)", "drawn(0, 1, 0)", "image(0)", "image(1)", "restore(0)", "restore(1)", "undo()"));
        Edge.test(1, "No SHEET.", () -> Run.fresh().dueAll(BAD, "measure(0, 0, 0)", "become(0, 1)", "tide(0, 0)",
            "steer(0, 0)", "until(0, 0, 1, 0)", "cut(0)", "thing(0, 0)", "leg(0, 0)", "mark(0, 0, 0)", "seen(0, 0, 0, 0)",
            "line(0, 1, 0, 0)", "lines(0, 1, 0)", "courses(0, 0)", "near(0, 0)"));
        Edge.test(1, "(none at first)", () -> Run.fresh().due("fault()", 0).due("times()", STATE).dueSheet(LEAST_SHEET, 1)
            .due("count(3)", 1));
    }

    // 2
    private static void bytes() {
        Edge.test(2, "A byte (0 to 255) comes behind the tape: how many it has.", () ->
            Run.fresh().due("feed(0)", 1).due("feed(255)", 2).due("feed(0)", 3).due("count(6)", 3));
        Edge.test(2, "A byte (0 to 255) comes behind the tape: how many it has. BAD", () ->
            Run.fresh().dueAll(BAD, "feed(-1)", "feed(256)", "feed(366)", "feed(-146)", "feed(" + Run.LEAST + ")",
                "feed(" + Run.MOST + ")").due("count(6)", 0));
        Edge.test(2, "comes behind the tape", () -> Run.fresh().tell("s").due("feed(256)", BAD).due("feed(119)", 2)
            .due("course()", 10));
        Edge.test(2, "THE TAPE has at most 160 bytes", () -> {
            Run run = Run.fresh();
            for (int i = 1; i <= 160; i++) {
                run.due("feed(122)", i);
            }
            run.due("feed(122)", FULL).due("count(6)", 160).due("feed(0)", FULL).due("count(6)", 160);
        });
        Edge.test(2, "BAD; FULL.", () -> Run.fresh().tell("z".repeat(160)).dueAll(BAD, "feed(-1)", "feed(256)")
            .due("feed(255)", FULL).due("count(6)", 160));
        Edge.test(2, "THE TAPE has at most 160 bytes", () -> Run.fresh().tell("z".repeat(160)).due("feed(122)", FULL)
            .due("course()", NONE).due("feed(110)", 1).tell("e".repeat(159)).due("feed(101)", FULL)
            .due("sheet()", FAULT_BASE).due("count(6)", 0).due("feed(122)", 1));
        Edge.test(3, "THE TAPE has at most 160 bytes", () -> Run.fresh().tell(LONGEST).due("count(6)", 160)
            .due("feed(59)", FULL).due("sheet()", 3).dueRow("count(*)", 8, 0, 8, 3, 6, 0, 0)
            .dueRow("thing(7, *)", 6, 60, 60, 15, 20).dueRow("leg(2, *)", 15, 1, 7, NONE));
        Edge.test(3, "the end: how many bytes there are", () -> Run.fresh()
            .tell(LONGEST.substring(0, 154) + "g15m60").due("feed(59)", FULL).due("sheet()", FAULT_BASE - 160)
            .due("fault()", 1));
    }

    /** The sign ^ stands ahead of the token that has the fault. */
    private static void fault(int number, String... marked) {
        for (String text : marked) {
            Run.fresh().dueSheet(text.replace("^", ""), FAULT_BASE - text.indexOf('^')).due("fault()", number)
                .due("times()", STATE).due("count(6)", 0);
        }
    }

    private static void tokens() {
        Edge.test(3, "NUMBERS (figures, 2 at most)", () -> Run.of("h03,09,00;t07;z01,02;b05,06,07,08;g09m01;")
            .due("ship(0, 0)", 3).due("ship(1, 0)", 9).due("ship(2, 0)", 0).due("ship(3, 0)", 1).due("ship(4, 0)", 2)
            .due("height(0)", 7).dueRow("thing(0, *)", 1, 5, 6, 7, 8).dueRow("leg(0, *)", 9, 0, 1, NONE));
        Edge.test(3, "NUMBERS (figures, 2 at most)", () -> Run.of("h19,58,47;t16;z25,34;k46,37,12,15;g10m19;")
            .due("ship(0, 0)", 19).due("ship(1, 0)", 58).due("ship(2, 0)", 47).due("ship(3, 0)", 25).due("ship(4, 0)", 34)
            .due("height(0)", 16).dueRow("thing(0, *)", 6, 46, 37, 12, 15).dueRow("leg(0, *)", 10, 0, 19, NONE));
        Edge.test(3, "a run of three figures or more, at its first", () -> fault(1, "h^003,1,1;", "h^020,0,0;",
            "h3,^010,1;", "h3,1,^0000;", "h^123", "h^1234567890,1,1;", SHIP + "t^000;", SHIP + "t1,^001;",
            SHIP + "t4;z^030,30;", HEAD + "b^001,2,3,4;", HEAD + "b1,2,3,^004;", HEAD + "g^000m1;", HEAD + "g0m^001;",
            HEAD + "g0a^000;", HEAD + "g0i0,^001;"));
        Edge.test(3, "letters a to z (each by itself)", () -> fault(1, "^`", "^{", "^H3,10,10;", "^Z", "h3,10,10;^T4;",
            HEAD + "^B1,2,3,4;" + LEG, HEAD + "^G0m1;", HEAD + "g0^M1;"));
        Edge.test(3, "SIGNS , and ; nothing else", () -> fault(1, "^ h3", "^\u0000", "^\u0080", "^\u00ff", "h^/", "h^:",
            "h^-1,0,0;", "h^+1,0,0;", "h3^.", "h3^ ,10,10;", "h3,^ 10,10;", "h3,10,10^:", "h3,10,10;^\n", "h3,10,10;^ t4;",
            HEAD + LEG + "^ ", HEAD + LEG + "^\u0000", HEAD + LEG + "^.", HEAD + "g0m1^\u00bb", "^\u00e8"));
    }

    // 3
    private static void shipOfSheet() {
        String words = "ship: h DRAUGHT , X , Y ; (0 to 20; 0 to 60 each: where she lies)";
        Edge.test(3, words, () -> Run.of("h0,0,0;t0;z9,9;" + LEG).due("track(0, 0, 0)", 0).due("track(0, 0, 1)", 0)
            .due("ship(0, 1)", 0).due("ship(1, 1)", 0).due("ship(2, 1)", 0));
        Edge.test(3, words, () -> Run.of("h20,60,59;t0;z9,9;" + LEG).due("track(0, 0, 0)", 60).due("track(0, 0, 1)", 59)
            .due("ship(0, 1)", 20).due("ship(1, 1)", 60).due("ship(2, 1)", 59));
        Edge.test(3, words, () -> Run.of("h20,59,60;t0;z9,9;" + LEG).due("ship(1, 1)", 59).due("ship(2, 1)", 60));
        Edge.test(3, words, () -> fault(2, "h^21,0,0;", "h^99,0,0;", "h20,^61,0;", "h20,^99,0;", "h20,60,^61;", "h20,60,^99;"));
        Edge.test(3, words, () -> fault(1, "h^,0,0;", "h^;", "h3^;", "h3^h", "h3,^,", "h3,10^;", "h3,10,^;", "h3,10,10^,",
            "h3,10,10^t4;", "h^h3,10,10;", "^3,10,10;"));
    }

    private static void tideOfSheet() {
        String words = "tide: t HEIGHT { , HEIGHT } ; (0 to 20; 1 to 6 of them, 0 .. 5)";
        Edge.test(3, words, () -> Run.of(SHIP + "t0;z1,1;" + LEG).due("count(4)", 1).due("height(0)", 0));
        Edge.test(3, words, () -> Run.of(SHIP + "t20,19,18,17,16,15;z1,1;" + LEG).due("count(4)", 6).due("height(0)", 20)
            .due("height(10)", 19).due("height(20)", 18).due("height(30)", 17).due("height(40)", 16).due("height(50)", 15)
            .due("height(60)", 20));
        Edge.test(3, words, () -> fault(2, SHIP + "t^21;", SHIP + "t^99;", SHIP + "t20,^21;", SHIP + "t1,2,3,4,5,^21;"));
        Edge.test(3, words, () -> fault(1, SHIP + "t^;", SHIP + "t^,4;", SHIP + "t4,^;", SHIP + "t4,^,4;", SHIP + "t4^z30,30;",
            SHIP + "t^t4;", SHIP + "^z30,30;", SHIP + "t4;^t4;z30,30;" + LEG));
        Edge.test(3, "the sign behind a sixth HEIGHT that is no ;", () -> fault(1, SHIP + "t1,2,3,4,5,6^,7;z1,1;" + LEG,
            SHIP + "t1,2,3,4,5,6^,", SHIP + "t1,2,3,4,5,6^,;", SHIP + "t1,2,3,4,5,6^,99;", SHIP + "t1,2,3,4,5,6^z1,1;",
            SHIP + "t1,2,3,4,5,6^"));
    }

    private static void harbourOfSheet() {
        String words = "harbour: z X , Y ; (0 to 60 each)";
        Edge.test(3, words, () -> Run.of("h0,5,5;t0;z0,60;" + LEG).due("ship(3, 1)", 0).due("ship(4, 1)", 60));
        Edge.test(3, words, () -> Run.of("h0,5,5;t0;z60,0;" + LEG).due("ship(3, 1)", 60).due("ship(4, 1)", 0));
        Edge.test(3, words, () -> fault(2, SHIP + "t4;z^61,0;", SHIP + "t4;z0,^61;", SHIP + "t4;z^99,99;"));
        Edge.test(3, words, () -> fault(1, SHIP + "t4;^g0m1;", SHIP + "t4;^b1,2,3,4;", SHIP + "t4;z^,", SHIP + "t4;z30^;",
            SHIP + "t4;z30,^;", SHIP + "t4;z30,30^,", SHIP + "t4;z30,30;^z30,30;"));
    }

    private static void thingsOfSheet() {
        Edge.test(3, "b a beacon, l a light, u a buoy, s a shoal, r a rock, k a bank: SORTS 1 to 6 in this order", () ->
            Run.of(HEAD + "b0,1,2,3;l1,2,3,4;u2,3,4,5;s3,4,5,6;r4,5,6,7;k5,6,7,8;" + LEG).dueRow("count(*)", 6, 3, 3)
                .dueRow("thing(0, *)", 1, 0, 1, 2, 3).dueRow("thing(1, *)", 2, 1, 2, 3, 4).dueRow("thing(2, *)", 3, 2, 3, 4, 5)
                .dueRow("thing(3, *)", 4, 3, 4, 5, 6).dueRow("thing(4, *)", 5, 4, 5, 6, 7).dueRow("thing(5, *)", 6, 5, 6, 7, 8));
        Edge.test(3, "thing: SORT X , Y , A , B ;", () -> Run.of(HEAD + "b0,0,0,0;b60,0,15,0;b0,60,0,20;" + LEG)
            .dueRow("thing(0, *)", 1, 0, 0, 0, 0).dueRow("thing(1, *)", 1, 60, 0, 15, 0).dueRow("thing(2, *)", 1, 0, 60, 0, 20));
        Edge.test(3, "0 to 60 each; 0 to 15; 0 to 20; THINGS 0 .. 7", () -> fault(2, HEAD + "b^61,0,0,0;", HEAD + "l60,^61,0,0;",
            HEAD + "u60,60,^16,0;", HEAD + "k60,60,15,^21;", HEAD + "s0,0,^99,99;"));
        Edge.test(3, "thing: SORT X , Y , A , B ;", () -> fault(1, HEAD + "b^;", HEAD + "b1^;", HEAD + "b1,2^;", HEAD + "b1,2,3^;",
            HEAD + "b1,2,3,4^,5;", HEAD + "b^,1,2,3;", HEAD + "b1,^,2,3;", HEAD + "b1,2,3,^;", HEAD + "b^b1,2,3,4;",
            HEAD + "b1,2,3,4^g0m1;", HEAD + "^a1,2,3,4;", HEAD + "^1,2,3,4;"));
        Edge.test(3, "sheet: ship tide harbour { thing } leg { leg }", () -> Run.of(HEAD + LEG).dueRow("count(*)", 0, 0, 0, 1, 1));
        Edge.test(3, "THINGS 0 .. 7, 8 at most", () -> Run.of(HEAD + THING.repeat(7) + "k5,6,7,8;" + LEG)
            .dueRow("count(*)", 8, 7, 1).dueRow("thing(6, *)", 1, 1, 2, 3, 4).dueRow("thing(7, *)", 6, 5, 6, 7, 8).due("thing(8, 0)", BAD));
        Edge.test(3, "3 a thing, a leg more than there is room for (its letter)", () -> fault(3, HEAD + THING.repeat(8) + "^" + THING + LEG,
            HEAD + THING.repeat(8) + "^l", HEAD + THING.repeat(8) + "^u99", HEAD + THING.repeat(8) + "^s;",
            HEAD + THING.repeat(8) + "^r1,2,3,4;", HEAD + THING.repeat(8) + "^k"));
        Edge.test(3, "3 a thing, a leg more than there is room for (its letter)", () -> fault(1, HEAD + THING.repeat(8) + "^",
            HEAD + THING.repeat(8) + "^q", HEAD + THING.repeat(8) + "^;", HEAD + THING.repeat(8) + "^0", HEAD + THING.repeat(8)
            + "g0m1;^b"));
    }

    private static void legsOfSheet() {
        Edge.test(3, "leg: g COURSE UNTIL ; (0 to 15; LEGS 0 .. 5, 6 at most)", () -> Run.of(HEAD + "g0m1;g15m1;").due("leg(0, 0)", 0)
            .due("leg(1, 0)", 15).due("leg(2, 0)", BAD));
        Edge.test(3, "leg: g COURSE UNTIL ; (0 to 15; LEGS 0 .. 5, 6 at most)", () -> fault(2, HEAD + "g^16m1;", HEAD + "g^99m1;",
            HEAD + LEG + "g^16m1;"));
        Edge.test(3, "leg: g COURSE UNTIL ; (0 to 15; LEGS 0 .. 5, 6 at most)", () -> fault(1, HEAD + "g^m1;", HEAD + "g^,0m1;",
            HEAD + "g0^;", HEAD + "g0^,m1;", HEAD + "g0^x1;", HEAD + "g0^g1;", HEAD + "g0m1^g0m1;",
            HEAD + "g0m1^,1;", HEAD + "g^g0m1;"));
        Edge.test(3, "LEGS 0 .. 5, 6 at most", () -> Run.of(HEAD + "g1m1;g2m2;g3m3;g4m4;g5m5;g6m6;").due("count(3)", 6)
            .dueRow("leg(0, *)", 1, 0, 1, NONE).dueRow("leg(5, *)", 6, 0, 6, NONE).due("leg(6, 0)", BAD));
        Edge.test(3, "how many LEGS there are", () -> Run.fresh().dueSheet(HEAD + LEG, 1).dueSheet(HEAD + LEG.repeat(2), 2)
            .dueSheet(HEAD + LEG.repeat(5), 5).dueSheet(HEAD + LEG.repeat(6), 6));
        Edge.test(3, "3 a thing, a leg more than there is room for (its letter)", () -> fault(3, HEAD + LEG.repeat(6) + "^" + LEG,
            HEAD + LEG.repeat(6) + "^g", HEAD + LEG.repeat(6) + "^g99", HEAD + LEG.repeat(6) + "^g;"));
        Edge.test(3, "3 a thing, a leg more than there is room for (its letter)", () -> fault(1, HEAD + LEG.repeat(6) + "^b",
            HEAD + LEG.repeat(6) + "^;", HEAD + LEG.repeat(6) + "^0", HEAD + LEG.repeat(5) + "g0^g"));
        Edge.test(3, "{ thing } leg { leg }", () -> fault(1, HEAD + "^", HEAD + THING + "^", HEAD + "^m1;", HEAD + "^h3,10,10;" + LEG,
            HEAD + LEG + "^" + THING, HEAD + LEG + "^" + THING + LEG, HEAD + LEG + "^m1;", HEAD + LEG + "^h", HEAD + LEG + "^;",
            HEAD + LEG + "^,", HEAD + LEG + "^0"));
    }

    private static void untilsOfSheet() {
        Edge.test(3, "m N (1 to 60)", () -> Run.of(HEAD + "g0m1;g0m60;").dueRow("leg(0, *)", 0, 0, 1, NONE)
            .dueRow("leg(1, *)", 0, 0, 60, NONE));
        Edge.test(3, "m N (1 to 60)", () -> fault(2, HEAD + "g0m^0;", HEAD + "g0m^00;", HEAD + "g0m^61;", HEAD + "g0m^99;"));
        Edge.test(3, "a T (0 to 7)", () -> Run.of(HEAD + "g0a0;g0a7;").dueRow("leg(0, *)", 0, 1, 0, NONE)
            .dueRow("leg(1, *)", 0, 1, 7, NONE));
        Edge.test(3, "a T (0 to 7)", () -> fault(2, HEAD + "g0a^8;", HEAD + "g0a^60;"));
        Edge.test(3, "i T , U (0 to 7 each)", () -> Run.of(HEAD + "g0i0,7;g0i7,0;g0i7,7;").dueRow("leg(0, *)", 0, 2, 0, 7)
            .dueRow("leg(1, *)", 0, 2, 7, 0).dueRow("leg(2, *)", 0, 2, 7, 7));
        Edge.test(3, "i T , U (0 to 7 each)", () -> fault(2, HEAD + "g0i^8,0;", HEAD + "g0i7,^8;", HEAD + "g0i^8,8;", HEAD + "g0i0,^60;"));
        Edge.test(3, "e T (0 to 7)", () -> Run.of(HEAD + "g0e0;g0e7;").dueRow("leg(0, *)", 0, 3, 0, NONE)
            .dueRow("leg(1, *)", 0, 3, 7, NONE));
        Edge.test(3, "e T (0 to 7)", () -> fault(2, HEAD + "g0e^8;", HEAD + "g0e^60;"));
        Edge.test(3, "d N (0 to 60)", () -> Run.of(HEAD + "g0d0;g0d60;").dueRow("leg(0, *)", 0, 4, 0, NONE)
            .dueRow("leg(1, *)", 0, 4, 60, NONE));
        Edge.test(3, "d N (0 to 60)", () -> fault(2, HEAD + "g0d^61;", HEAD + "g0d^99;"));
        Edge.test(3, "UNTIL: m N (1 to 60) | a T (0 to 7) | i T , U (0 to 7 each)", () -> fault(1, HEAD + "g0m^;", HEAD + "g0m^,1;",
            HEAD + "g0a^;", HEAD + "g0a1^,1;", HEAD + "g0m1^,1;", HEAD + "g0e1^,1;", HEAD + "g0d1^,1;", HEAD + "g0i1^;", HEAD + "g0i1,^;",
            HEAD + "g0i1^i1;", HEAD + "g0i1,1^,1;", HEAD + "g0i^,1;", HEAD + "g0m^m1;", HEAD + "g0m^100;"));
        Edge.test(3, "T, U may be THINGS that there are not.", () -> Run.fresh().dueSheet(HEAD + "g0a0;g0i0,7;g0e7;", 3)
            .due("count(0)", 0).due("leg(1, 3)", 7).dueSheet(HEAD + "s1,1,1,1;g0a0;g0i1,0;g0e0;", 3));
    }

    private static void faultsCannotStand() {
        Edge.test(3, "1 it cannot stand there", () -> fault(1, "^t4;", "^z1,1;", "^g0m1;", "^b1,2,3,4;", "^,", "^;", "^4", "^99", "^x",
            SHIP + "^h3,10,10;", SHIP + "^4;", SHIP + "^;", SHIP + "t4;^4,4;", HEAD + "^4", HEAD + "^,", HEAD + THING + "^;"));
        Edge.test(3, "of one TOKEN the least", () -> fault(1, "^99", SHIP + "^99", HEAD + "^61", HEAD + "g0m1;^99", HEAD + "g0m^199;",
            "h^210,0,0;", "h3,^610,0;", HEAD + "g0a^800;", HEAD + THING.repeat(8) + "g0m1;^b1,2,3,4;", HEAD + LEG.repeat(5) + "g0^g0m1;",
            HEAD + THING.repeat(7) + "b1^b2,3,4;"));
    }

    private static void faultsFirstAndLeast() {
        Edge.test(3, "FAULTS, the first TOKEN that has one (its first byte)", () -> fault(2, "h^21,99,999;x", "h20,^61x", HEAD
            + "b^61,99,99,99;x",
            HEAD + "g^16m0;", HEAD + "g0m^61;;", HEAD + "g0i^8,9;"));
        Edge.test(3, "FAULTS, the first TOKEN that has one (its first byte)", () -> fault(1, "h3^;99,99;", "h3,10,10;^x" + "t99;", HEAD
            + "^;g99m0;",
            HEAD + "g0^?m0;"));
        Edge.test(3, "-1000100 less the place of a FAULT", () -> Run.fresh().dueSheet("", FAULT_BASE).dueSheet("x", FAULT_BASE)
            .dueSheet("hx", FAULT_BASE - 1).dueSheet("h3,10,10;t4;z30,30;g0m1;x", FAULT_BASE - 24));
    }

    private static void faultsOfTheEnd() {
        Edge.test(3, "the end: how many bytes there are", () -> fault(1, "^"));
        for (int length = 0; length < RICH.length(); length++) {
            String cut = RICH.substring(0, length);
            boolean isWhole = cut.endsWith("g14i5,6;");
            Edge.test(3, "the end: how many bytes there are", () ->
                Run.fresh().dueSheet(cut, isWhole ? 1 : FAULT_BASE - cut.length()).due("fault()", isWhole ? 0 : 1));
        }
        Edge.test(3, "how many LEGS there are", () -> Run.fresh().dueSheet(RICH, 2));
    }

    private static void sheetInPlace() {
        Edge.test(3, "The tape, empty then, is read", () -> Run.fresh().dueSheet(LEAST_SHEET, 1).due("count(6)", 0)
            .due("sheet()", FAULT_BASE)
            .due("feed(104)", 1).due("sheet()", FAULT_BASE - 1).due("count(6)", 0));
        Edge.test(3, "A SHEET that is read stands in place of the one before", () -> Run.of(
            "h9,8,7;t6,5,4;z3,2;b1,2,3,4;l5,6,7,8;s9,9,9,9;g1i2,3;g4i5,6;").told("h1,2,3;t4;z5,6;g7m8;")
            .dueRow("count(*)", 0, 0, 0, 1, 1, 0, 0).dueRow("leg(0, *)", 7, 0, 8, NONE).due("leg(1, 0)", BAD).due("thing(0, 0)", BAD)
            .due("height(10)", 4).due("tide(1, 0)", BAD).due("water(9, 9, 0)", 40).due("ship(0, 0)", 1).due("ship(1, 0)", 2)
            .due("ship(2, 0)", 3).due("ship(3, 0)", 5).due("ship(4, 0)", 6));
        Edge.test(3, "A SHEET that is read stands in place of the one before", () -> Run.of("h1,2,3;t4;z5,6;g7m8;").told(
            "h9,8,7;t6,5,4;z3,2;b1,2,3,4;l5,6,7,8;g1i2,3;g4i5,6;").dueRow("count(*)", 2, 2, 0, 2, 3, 0, 0)
            .dueRow("thing(1, *)", 2, 5, 6, 7, 8).dueRow("leg(1, *)", 4, 2, 5, 6).due("height(20)", 4));
        for (int left = 0; left < 3; left++) {
            String things = "b1,1,1,1;".repeat(left);
            Edge.test(3, "A SHEET that is read stands in place of the one before", () ->
                Run.of("h0,9,9;t0;z9,9;s9,9,3,1;k9,9,3,1;r9,9,3,1;g0m1;")
                .due("water(9, 9, 0)", -1).told("h0,9,9;t0;z9,9;" + things + "g0m1;").due("water(9, 9, 0)", 40).due("water(9, 9, 1)", NONE)
                .due("sail(0, 5)", 40)
                .due("count(2)", 0));
        }
        Edge.test(3, "A SHEET that is read stands in place of the one before", () ->
            Run.of("h0,9,9;t0;z9,9;b1,1,1,1;b2,2,2,2;s9,9,1,1;g0m1;")
            .due("lines(0, 1, 2)", 4).told("h0,9,9;t0;z9,9;b1,1,1,1;b2,2,2,2;g0m1;")
            .dueAll(0, "lines(0, 1, 0)", "lines(0, 1, 1)", "lines(0, 1, 2)"));
        Edge.test(3, "no ACT can be undone", () -> Run.of(LEAST_SHEET).due("ship(0, 9)", 0).due("steer(0, 9)", 0).due("count(5)", 2)
            .told(LEAST_SHEET).due("count(5)", 0).due("undo()", STATE).due("ship(0, 3)", 0).due("undo()", 0).due("undo()", STATE));
        Edge.test(3, "IMAGES stay", () -> Run.of("h9,8,7;t6;z3,2;g1m5;").due("image(0)", 1).told(LEAST_SHEET).due("image(1)", 1)
            .told("h5,5,5;t5;z5,5;g5m5;").due("restore(0)", 1).due("leg(0, 0)", 1).due("restore(1)", 1).due("leg(0, 0)", 0)
            .due("restore(0)", 1).due("ship(0, 0)", 9));
    }

    private static void sheetWithFault() {
        String words = "all but the tape, that is empty then, and what fault() tells stays";
        Edge.test(3, words, () -> Run.of("h9,8,7;t6,5;z3,2;b1,2,3,4;g1i2,3;").due("image(1)", 1).due("ship(0, 4)", 9).due("steer(0, 3)", 1)
            .dueSheet("h1,1,1;t1;z1,1;k9,9,9,9;g5m5", FAULT_BASE - 28).dueRow("count(*)", 1, 1, 0, 1, 2, 2, 0)
            .dueRow("thing(0, *)", 1, 1, 2, 3, 4).dueRow("leg(0, *)", 3, 2, 2, 3).due("height(0)", 6).due("height(10)", 5)
            .due("track(0, 0, 0)", 8).due("track(0, 0, 1)", 7).due("undo()", 1).due("leg(0, 0)", 1).due("undo()", 0)
            .due("ship(0, 9)", 9).due("ship(3, 9)", 3).due("ship(4, 9)", 2).due("restore(0)", STATE).due("restore(1)", 1)
            .due("ship(3, 9)", 3));
        Edge.test(3, words, () -> Run.fresh().dueSheet("h1,1,1;t1;z1,1;k9,9,9,9;g5m5", FAULT_BASE - 28)
            .dueRow("count(*)", 0, 0, 0, 0, 0, 0, 0)
            .due("times()", STATE).due("image(0)", STATE).due("undo()", STATE).due("thing(0, 0)", BAD).due("leg(0, 0)", BAD));
    }

    // 4
    private static void faultNumbers() {
        Edge.test(4, "The number of the latest FAULT; 0 before one.", () -> Run.fresh().due("fault()", 0).dueSheet(LEAST_SHEET, 1)
            .due("fault()", 0).dueSheet("h21", FAULT_BASE - 1).due("fault()", 2).due("fault()", 2).dueSheet("", FAULT_BASE)
            .due("fault()", 1)
            .dueSheet(HEAD + LEG.repeat(6) + "g", FAULT_BASE - 49).due("fault()", 3).dueSheet("h99", FAULT_BASE - 1).due("fault()", 2));
        Edge.test(4, "The number of the latest FAULT", () -> Run.fresh().dueSheet("h21", FAULT_BASE - 1).dueSheet(LEAST_SHEET, 1)
            .due("fault()", 2).due("image(0)", 1).due("restore(0)", 1).due("fault()", 2));
        Edge.test(4, "The number of the latest FAULT", () -> Run.fresh().dueCourse("nope", NONE).due("fault()", 0)
            .dueSheet("h21", FAULT_BASE - 1).dueCourse("nope", NONE).due("fault()", 2).dueCourse("n", 0).due("fault()", 2)
            .due("feed(256)", BAD).due("ship(0, 0)", STATE).due("fault()", 2));
    }

    // 5
    private static void courseNames() {
        String[] names = {"n", "nne", "ne", "ene", "e", "ese", "se", "sse", "s", "ssw", "sw", "wsw", "w", "wnw", "nw", "nnw"};
        for (int i = 0; i < names.length; i++) {
            int course = i;
            Edge.test(5, "is read as the NAME of a COURSE (small letters, nothing else): its number", () ->
                Run.fresh().dueCourse(names[course], course).due("count(6)", 0).due("course()", NONE));
        }
        String words = "(small letters, nothing else): its number; NONE: it is none";
        for (String name : new String[] {"", "N", "NNE", "Nne", "nnE", "n ", " n", "n;", "n\u0000", "0", "4", "nn", "ee", "ss", "ww", "en",
            "es",
            "wn", "ws", "nee", "nen", "nnn", "eee", "nnnw", "nnew", "nnwn", "ssww", "north", "nnen", "\u00ee", "n".repeat(160)}) {
            Edge.test(5, words, () -> Run.fresh().dueCourse(name, NONE).due("count(6)", 0));
        }
        Edge.test(5, "The tape, empty then, is read as the NAME of a COURSE", () -> Run.of("h9,8,7;t6;z3,2;g1m5;").due("ship(0, 3)", 9)
            .dueCourse("sw", 10).due("count(5)", 1).due("leg(0, 0)", 1).due("times()", 0).dueCourse("x", NONE).due("count(5)", 1)
            .due("undo()", 0));
    }
}
