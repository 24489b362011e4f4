/** The edges of the document's part 3: voyages, untils, why, the log, under the keel; promises 23 to 26. */
final class VoyageEdges {
    private static final int NONE = Run.NONE, BAD = Run.BAD, STATE = Run.STATE;
    private static final int LEAST = Run.LEAST, MOST = Run.MOST;

    private VoyageEdges() {
    }

    static void all() {
        startMinutes();
        chartEnds();
        aground();
        whichHoldsFirst();
        sixtiethMinute();
        untilMinutes();
        untilAbeam();
        untilInLine();
        untilInLineSeen();
        untilLight();
        untilDepth();
        arrives();
        underTheKeel();
        track();
        mistaken();
        whyOff();
        whyAground();
        whyOverdue();
        whyMissed();
        whyRefusals();
        log();
        logRefusals();
    }

    // 23
    private static void startMinutes() {
        String words = "Of a VOYAGE from minute t on: 0 how many minutes, 1 X, 2 Y where she is in the end, 3 how many LEGS are DONE,"
            + " 4 whether she ARRIVES (1, 0), 5 the least UNDER THE KEEL, 6 the first minute (of the VOYAGE) that has it";
        Edge.test(23, words, () -> Run.of("h0,30,30;t0;z30,30;g0m2;g4m1;").dueSail(0, 3, 31, 32, 2, 1, 40, 1));
        Edge.test(23, "A VOYAGE from minute t on (0 to 99)", () -> Run.of("h0,30,30;t0,20;z30,30;g0m1;").due("sail(0, 5)", 42)
            .due("sail(50, 5)", 58)
            .due("sail(98, 5)", 42).due("sail(99, 5)", 40).dueAll(BAD, "sail(-1, 0)", "sail(100, 0)", "sail(" + MOST + ", 0)", "sail("
            + LEAST + ", 0)"));
        Edge.test(23, "that has it; 5, 6: NONE: there is none. BAD; STATE: no SHEET (ahead of BAD).", () ->
            Run.of("h0,30,30;t0;z30,30;g0m1;").due("sail(0, 6)", 1)
            .dueAll(BAD, "sail(0, -1)", "sail(0, 7)", "sail(0, " + MOST + ")", "sail(0, " + LEAST + ")"));
        Edge.test(23, "STATE: no SHEET (ahead of BAD)", () -> Run.fresh().dueAll(STATE, "sail(0, 0)", "sail(-1, 0)", "sail(100, 0)",
            "sail(0, 7)", "sail(0, -1)"));
        Edge.test(23, "at minute t and how many she has sailed by now", () -> Run.of("h10,30,30;t0,10;z30,40;s30,35,0,5;g0m10;")
            .due("sail(0, 4)", 1)
            .due("sail(0, 5)", 0).due("sail(99, 4)", 0).due("sail(99, 0)", 5).due("sail(99, 5)", -1).due("sail(10, 5)", 0)
            .due("sail(11, 5)", -1)
            .due("until(0, 0, 3, 0)", 0).due("add(1, 0, 0, 7, 0)", 2).due("sail(0, 4)", 1).due("sail(0, 5)", 0).due("sail(99, 0)", 5)
            .due("sail(99, 5)", -1)
            .due("sail(99, 3)", 1));
        Edge.test(23, "first she lies where the SHEET tells; then one LEG behind the other", () ->
            Run.of("h0,10,10;t0;z0,0;g3m2;g9m3;g12m1;g0m1;g0m1;g0m1;")
            .dueSail(0, 9, 10, 9, 6, 0));
    }

    private static void chartEnds() {
        String words = "she is not in THE CHART: she is OFF";
        Edge.test(23, words, () -> Run.of("h0,58,30;t0;z60,30;g4m2;").dueSail(0, 2, 60, 30, 1, 1).due("until(0, 0, 3, 0)", 0)
            .dueSail(0, 3, 61, 30, 0, 0, 40, 1));
        Edge.test(23, words, () -> Run.of("h0,2,30;t0;z0,30;g12m2;").dueSail(0, 2, 0, 30, 1, 1).due("until(0, 0, 3, 0)", 0)
            .dueSail(0, 3, -1, 30, 0, 0, 40, 1));
        Edge.test(23, words, () -> Run.of("h0,30,58;t0;z30,60;g0m2;").dueSail(0, 2, 30, 60, 1, 1).due("until(0, 0, 3, 0)", 0)
            .dueSail(0, 3, 30, 61, 0, 0, 40, 1));
        Edge.test(23, words, () -> Run.of("h0,30,2;t0;z30,0;g8m2;").dueSail(0, 2, 30, 0, 1, 1).due("until(0, 0, 3, 0)", 0)
            .dueSail(0, 3, 30, -1, 0, 0, 40, 1));
        Edge.test(23, words, () -> Run.of("h0,59,0;t0;z60,60;g3m1;").dueSail(0, 1, 61, 1, 0, 0, NONE, NONE));
        Edge.test(23, "THE CHART are places with X and Y 0 to 60", () -> Run.of("h0,0,0;t0;z60,60;g2m60;")
            .dueSail(0, 60, 60, 60, 1, 1, 40, 1));
    }

    private static void aground() {
        Edge.test(23, "WATER is less than DRAUGHT: AGROUND", () -> Run.of("h7,30,30;t2;z30,33;s30,31,0,5;g0m3;")
            .dueSail(0, 3, 30, 33, 1, 1, 0, 1)
            .due("ship(0, 8)", 7).dueSail(0, 1, 30, 31, 0, 0, -1, 1));
        Edge.test(23, "WATER is less than DRAUGHT: AGROUND", () -> Run.of("h0,30,30;t2;z30,33;r30,31,0,2;g0m3;")
            .dueSail(0, 3, 30, 33, 1, 1, 0, 1)
            .due("measure(0, 3, 3)", 2).dueSail(0, 1, 30, 31, 0, 0, -1, 1));
        Edge.test(23, "Each minute of a LEG she goes by its COURSE; then", () -> Run.of("h20,30,30;t0;z30,31;r30,30,0,20;g0m1;")
            .dueSail(0, 1, 30, 31, 1, 1, 20, 1));
    }

    private static void whichHoldsFirst() {
        String words = "the first of these that holds";
        Edge.test(23, words, () -> Run.of("h20,57,29;t0;z60,30;r60,31,1,20;g3m2;").dueSail(0, 2, 61, 31, 0, 0, 20, 1)
            .dueWhy(0, "1:0 2:2 3:1"));
        Edge.test(23, words, () -> Run.of("h0,60,60;t0;z60,60;g0m1;").dueSail(0, 1, 60, 61, 0, 0, NONE, NONE).dueWhy(0, "1:0 2:1 3:3"));
        Edge.test(23, words, () -> Run.of("h5,30,30;t0;z30,31;s30,31,0,4;g0m1;").dueSail(0, 1, 30, 31, 0, 0, -1, 1)
            .dueWhy(0, "1:0 2:1 4:0 7:1"));
        Edge.test(23, words, () -> Run.of("h5,30,30;t0;z30,31;s30,31,0,4;g0d4;").dueSail(0, 1, 30, 31, 0, 0).due("ship(0, 4)", 5)
            .dueSail(0, 1, 30, 31, 1, 1, 0, 1));
        Edge.test(23, words, () -> Run.of("h0,1,30;t0;z60,30;g4d0;").dueSail(0, 60, 61, 30, 0, 0, 40, 1).dueWhy(0, "1:0 2:60 3:1"));
        Edge.test(23, words, () -> Run.of("h5,0,30;t0;z60,30;s60,30,0,4;g4d3;").dueSail(0, 60, 60, 30, 0, 0, -1, 60)
            .dueWhy(0, "1:0 2:60 4:0 7:1"));
    }

    private static void sixtiethMinute() {
        String words = "that was its 60th minute: it is OVERDUE";
        Edge.test(23, words, () -> Run.of("h0,0,30;t0;z60,30;g4d0;").dueSail(0, 60, 60, 30, 0, 0, 40, 1).dueWhy(0, "1:0 2:60 5:4"));
        Edge.test(23, "the LEG is DONE; that was its 60th minute", () -> Run.of("h0,0,30;t0;z60,30;g4m60;").dueSail(0, 60, 60, 30, 1, 1));
        Edge.test(23, "the LEG is DONE; that was its 60th minute", () -> Run.of("h0,0,30;t0;z60,30;s60,30,0,3;g4d3;")
            .dueSail(0, 60, 60, 30, 1, 1));
        Edge.test(23, "the LEG is DONE; that was its 60th minute", () -> Run.of("h0,0,30;t0;z60,30;b60,40,0,0;g4a0;")
            .dueSail(0, 60, 60, 30, 1, 1));
        Edge.test(23, words, () -> Run.of("h0,30,30;t0;z60,30;g4m30;g12d0;").dueSail(0, 90, 0, 30, 1, 0).dueWhy(0, "1:1 2:90 5:4"));
        Edge.test(23, words, () -> Run.of("h0,0,30;t0;z60,30;g4m60;g12m60;g4m60;g12m60;g4m60;g12d0;").dueSail(0, 360, 0, 30, 5, 0)
            .dueWhy(0, "1:5 2:360 5:4"));
    }

    private static void untilMinutes() {
        Edge.test(23, "m: N minutes of the LEG are over", () -> Run.of("h0,0,30;t0;z3,30;g4m1;").dueSail(0, 1, 1, 30, 1, 1)
            .due("until(0, 0, 59, 0)", 0)
            .dueSail(0, 59, 59, 30, 1, 0).due("until(0, 0, 60, 0)", 0).dueSail(0, 60, 60, 30, 1, 0));
        Edge.test(23, "m: N minutes of the LEG are over", () -> Run.of("h0,0,30;t0;z3,30;g4m2;g0m3;g4m2;").dueSail(0, 7, 4, 33, 3, 0));
    }

    private static void untilAbeam() {
        String words = "a: T is SEEN and ABEAM: the COURSE and the way from her to T, east times east and north times north, are together 0 or less";
        Edge.test(23, words, () -> Run.of("h0,10,30;t0;z30,30;b30,35,0,0;g4a0;").dueSail(0, 20, 30, 30, 1, 1).due("measure(0, 0, 31)", 30)
            .due("sail(0, 0)", 21)
            .due("measure(0, 0, 11)", 31).due("sail(0, 0)", 1).due("measure(0, 0, 5)", 11).due("sail(0, 0)", 1).due("measure(0, 0, 12)", 5)
            .due("sail(0, 0)", 2));
        Edge.test(23, words, () -> Run.of("h0,10,30;t0;z30,30;b30,50,0,0;g4a0;").dueSail(0, 20, 30, 30, 1, 1).due("measure(0, 1, 51)", 50)
            .dueSail(0, 51, 61, 30, 0, 0).due("measure(0, 1, 10)", 51).due("sail(0, 0)", 20).due("measure(0, 1, 9)", 10)
            .due("sail(0, 0)", 51));
        Edge.test(23, words, () -> Run.of("h0,10,10;t0;z16,22;b20,20,0,0;g1a0;").dueSail(0, 6, 16, 22, 1, 1).due("measure(0, 0, 21)", 20)
            .due("sail(0, 0)", 7)
            .due("measure(0, 0, 15)", 21).due("sail(0, 0)", 5).due("measure(0, 0, 16)", 15).due("sail(0, 0)", 6));
        Edge.test(23, words, () -> Run.of("h0,30,30;t0;z30,30;b28,28,0,0;g10a0;").dueSail(0, 2, 28, 28, 1, 1).due("steer(0, 9)", 10)
            .due("sail(0, 0)", 2)
            .due("steer(0, 2)", 9).due("sail(0, 0)", 1).due("steer(0, 6)", 2).due("sail(0, 0)", 1).due("steer(0, 12)", 6)
            .due("sail(0, 0)", 2));
        Edge.test(23, "a: T is SEEN and ABEAM", () -> Run.of("h0,20,30;t0,20;z27,30;u24,30,0,0;g4a0;").dueSail(0, 7, 27, 30, 1, 1)
            .due("sail(10, 0)", 6)
            .due("tide(1, 0)", 20).due("sail(0, 0)", 4));
        Edge.test(23, "a: T is SEEN and ABEAM", () -> Run.of("h0,10,30;t0;z27,30;u20,40,0,0;g4a0;").due("sail(0, 0)", 10)
            .due("measure(0, 1, 41)", 40)
            .due("sail(0, 0)", 51).due("become(0, 1)", 3).due("sail(0, 0)", 10).due("become(0, 2)", 1).due("sail(0, 0)", 10));
        Edge.test(23, "a: T is SEEN and ABEAM", () -> Run.of("h0,10,30;t0;z27,30;l20,40,8,10;g4a0;").due("sail(0, 0)", 10)
            .due("measure(0, 3, 8)", 10)
            .due("sail(0, 0)", 10).due("measure(0, 2, 6)", 8).due("sail(0, 0)", 11));
    }

    private static void untilInLine() {
        String words = "S is 0, or is less than 0 and was more as the LEG began (ahead of its first minute), or is more and was less";
        String marks = "b20,20,0,0;b20,30,0,0;";
        String odd = "b21,15,0,0;b21,25,0,0;";
        Edge.test(23, words, () -> Run.of("h0,10,10;t0;z20,10;" + marks + "g4i0,1;").dueSail(0, 10, 20, 10, 1, 1)
            .due("until(0, 2, 1, 0)", 2).due("sail(0, 0)", 10)
            .due("ship(1, 30)", 10).due("steer(0, 12)", 4).due("sail(0, 0)", 10).due("until(0, 2, 0, 1)", 2).due("sail(0, 0)", 10));
        Edge.test(23, words, () -> Run.of("h0,10,10;t0;z22,16;" + odd + "g3i0,1;").dueSail(0, 6, 22, 16, 1, 1).due("until(0, 2, 1, 0)", 2)
            .due("sail(0, 0)", 6));
        Edge.test(23, words, () -> Run.of("h0,20,10;t0;z22,11;" + odd + "g3i0,1;").dueSail(0, 1, 22, 11, 1, 1).due("until(0, 2, 1, 0)", 2)
            .due("sail(0, 0)", 1)
            .due("ship(1, 22)", 20).due("steer(0, 13)", 3).due("sail(0, 0)", 1).due("until(0, 2, 0, 1)", 2).due("sail(0, 0)", 1));
        Edge.test(23, words, () -> Run.of("h0,21,10;t0;z30,10;" + odd + "g4i0,1;").dueSail(0, 40, 61, 10, 0, 0).due("until(0, 2, 1, 0)", 2)
            .due("sail(0, 0)", 40)
            .due("steer(0, 12)", 4).due("sail(0, 0)", 22).due("until(0, 2, 0, 1)", 2).due("sail(0, 0)", 22).due("steer(0, 0)", 12)
            .due("sail(0, 0)", 1));
        Edge.test(23, words, () -> Run.of("h0,22,10;t0;z30,10;" + odd + "g4i0,1;").due("sail(0, 0)", 39).due("until(0, 2, 1, 0)", 2)
            .due("sail(0, 0)", 39)
            .due("ship(1, 20)", 22).due("steer(0, 12)", 4).due("sail(0, 0)", 21).due("until(0, 2, 0, 1)", 2).due("sail(0, 0)", 21));
        String close = "b29,31,0,0;b29,32,0,0;";
        Edge.test(23, words, () -> Run.of("h0,30,30;t0;z30,30;" + close + "g13i0,1;").due("sail(0, 0)", 1).due("until(0, 2, 1, 0)", 2)
            .due("sail(0, 0)", 1)
            .due("steer(0, 0)", 13).due("sail(0, 0)", 31).due("until(0, 2, 0, 1)", 2).due("sail(0, 0)", 31));
        Edge.test(23, words, () -> Run.of("h0,29,30;t0;z30,30;" + close + "g4i0,1;").due("sail(0, 0)", 32).due("until(0, 2, 1, 0)", 2)
            .due("sail(0, 0)", 32)
            .due("steer(0, 12)", 4).due("sail(0, 0)", 30).due("until(0, 2, 0, 1)", 2).due("sail(0, 0)", 30));
        Edge.test(23, "as the LEG began (ahead of its first minute)", () -> Run.of("h0,10,10;t0;z30,10;" + marks + "g4m15;g4i0,1;")
            .dueSail(0, 51, 61, 10, 1, 0)
            .due("until(1, 2, 1, 0)", 2).due("sail(0, 0)", 51).due("until(0, 0, 9, 0)", 0).due("sail(0, 0)", 10).due("sail(0, 3)", 2));
        Edge.test(23, "S: from her, how far T is to the east times how far U is to the north, less how far T is to the north times how far U is to the east", () ->
            Run.of("h0,10,10;t0;z30,10;b12,12,0,0;b14,13,0,0;g4i0,1;").due("sail(0, 0)", 51).due("steer(0, 12)", 4).due("sail(0, 0)", 2)
            .due("measure(0, 1, 11)", 12)
                .due("sail(0, 0)", 11).due("steer(0, 4)", 12).due("sail(0, 0)", 1).due("steer(0, 8)", 4).due("sail(0, 0)", 1)
                .due("steer(0, 14)", 8).due("sail(0, 0)", 11)
                .due("steer(0, 0)", 14).due("sail(0, 0)", 51));
        Edge.test(23, "IN LINE: S is 0", () -> Run.of("h0,10,10;t0;z10,11;b12,17,0,0;g0i0,0;").dueSail(0, 1, 10, 11, 1, 1)
            .due("measure(0, 1, 32)", 17).due("sail(0, 0)", 3));
    }

    private static void untilInLineSeen() {
        Edge.test(23, "i: T and U are SEEN and IN LINE", () -> Run.of("h0,10,10;t0;z20,10;b20,20,0,0;b20,30,0,0;g4i0,1;")
            .due("sail(0, 0)", 10)
            .due("measure(1, 1, 31)", 30).due("sail(0, 0)", 51).due("until(0, 2, 1, 0)", 2).due("sail(0, 0)", 51)
            .due("measure(1, 1, 30)", 31).due("sail(0, 0)", 10));
        Edge.test(23, "i: T and U are SEEN and IN LINE", () -> Run.of("h0,10,5;t0;z21,16;b15,20,0,0;b15,35,0,0;g2i0,1;")
            .dueSail(0, 11, 21, 16, 1, 1)
            .due("until(0, 2, 1, 0)", 2).due("sail(0, 0)", 11));
        Edge.test(23, "i: T and U are SEEN and IN LINE", () -> Run.of("h0,0,30;t0,4;z60,30;u50,30,0,0;b60,50,0,0;g4i0,1;")
            .dueSail(0, 60, 60, 30, 1, 1)
            .due("measure(0, 0, 49)", 50).dueWhy(0, "1:0 2:60 5:2 8:0").due("measure(0, 0, 50)", 49).due("measure(1, 1, 51)", 50)
            .dueWhy(0, "1:0 2:60 5:2 8:1"));
        Edge.test(23, "PLACE of a MARK at minute m: its own; of a buoy X is more", () ->
            Run.of("h0,30,30;t0,20;z30,30;u29,40,0,0;b30,38,0,0;g0i0,1;g8m1;").due("sail(0, 0)", 3));
        Edge.test(23, "as the LEG began (ahead of its first minute)", () ->
            Run.of("h0,30,20;t0,20;z30,30;u28,40,0,0;b30,38,0,0;g0m11;g0i0,1;").due("sail(0, 0)", 15));
    }

    private static void untilLight() {
        String words = "e: T is SEEN and was not as the LEG began, or the other way round";
        Edge.test(23, words, () -> Run.of("h0,20,40;t0;z30,40;l30,30,0,4;g4e0;").dueSail(0, 10, 30, 40, 1, 1).due("ship(1, 29)", 20)
            .due("sail(0, 0)", 1)
            .due("ship(1, 30)", 29).due("sail(0, 0)", 31).due("steer(0, 12)", 4).due("sail(0, 0)", 1).due("ship(1, 35)", 30)
            .due("sail(0, 0)", 6)
            .due("ship(1, 29)", 35).due("sail(0, 0)", 30));
        Edge.test(23, words, () -> Run.of("h0,20,40;t0;z30,40;l30,30,0,4;g4m15;g4e0;").dueSail(0, 41, 61, 40, 1, 0)
            .due("until(0, 0, 9, 0)", 0).dueSail(0, 10, 30, 40, 2, 1));
        Edge.test(23, words, () -> Run.of("h0,40,40;t0;z30,40;l30,30,0,4;g8e0;").dueSail(0, 10, 40, 30, 1, 0).due("steer(0, 0)", 8)
            .due("sail(0, 0)", 21)
            .due("ship(2, 20)", 40).due("sail(0, 0)", 11));
        Edge.test(23, words, () -> Run.of("h0,30,25;t0;z30,30;l30,30,4,6;g0e0;").dueSail(0, 5, 30, 30, 1, 1).due("ship(2, 30)", 25)
            .due("sail(0, 0)", 1));
    }

    private static void untilDepth() {
        String words = "d: WATER is N or less";
        Edge.test(23, words, () -> Run.of("h0,20,30;t3;z27,30;s30,30,3,2;g4d5;").dueSail(0, 7, 27, 30, 1, 1, 5, 7)
            .due("until(0, 4, 4, 0)", 4).due("sail(0, 0)", 41)
            .due("until(0, 4, 6, 0)", 4).due("sail(0, 0)", 7).due("until(0, 4, 42, 0)", 4).due("sail(0, 0)", 7).due("until(0, 4, 43, 0)", 4)
            .due("sail(0, 0)", 1));
        Edge.test(23, words, () -> Run.of("h0,20,30;t0;z22,30;s22,30,0,0;r24,30,0,1;g4d0;").dueSail(0, 2, 22, 30, 1, 1, 0, 2)
            .due("measure(0, 3, 1)", 0)
            .dueSail(0, 4, 24, 30, 0, 0, -1, 4));
        Edge.test(23, words, () -> Run.of("h0,20,30;t20;z22,30;g4d60;").due("sail(0, 0)", 1).due("until(0, 4, 59, 0)", 4)
            .due("sail(0, 0)", 41));
        Edge.test(23, words, () -> Run.of("h0,20,30;t0,10;z22,30;k30,30,9,5;g4d9;").due("sail(0, 0)", 1).due("until(0, 4, 5, 0)", 4)
            .due("sail(0, 0)", 41)
            .due("sail(1, 0)", 19).due("sail(10, 0)", 10).due("until(0, 4, 4, 0)", 4).due("sail(10, 0)", 41));
    }

    private static void arrives() {
        String words = "When all LEGS are DONE she ARRIVES, if she is no more than 3 far from the harbour; else she has MISSED it";
        Edge.test(23, words, () -> {
            Run run = Run.of("h0,30,29;t0;z30,30;g0m1;");
            for (int east = -4; east <= 4; east++) {
                run.ask("ship(3, " + (30 + east) + ")");
                for (int north = -4; north <= 4; north++) {
                    run.ask("ship(4, " + (30 + north) + ")");
                    run.due("sail(0, 4)", east * east + north * north <= 9 ? 1 : 0);
                }
            }
        });
        Edge.test(23, words, () -> Run.of("h0,30,30;t0;z30,35;g0m5;g0m5;").dueSail(0, 10, 30, 40, 2, 0).dueWhy(0, "1:2 10:25")
            .due("cut(1)", 1).due("sail(0, 4)", 1));
        Edge.test(23, words, () -> Run.of("h0,30,58;t0;z30,60;g0m9;").dueSail(0, 3, 30, 61, 0, 0));
    }

    private static void underTheKeel() {
        Edge.test(23, "UNDER THE KEEL, behind each minute in THE CHART", () -> Run.of("h5,30,30;t0;z30,31;s30,30,0,0;g0m1;")
            .dueSail(0, 1, 30, 31, 1, 1, 35, 1));
        Edge.test(23, "6 the first minute (of the VOYAGE) that has it", () -> Run.of("h5,30,30;t0;z30,34;s30,32,0,6;s30,34,0,6;g0m1;g0m3;")
            .dueSail(0, 4, 30, 34, 2, 1, 1, 2)
            .due("measure(1, 3, 5)", 6).dueSail(0, 4, 30, 34, 2, 1, 0, 4).due("measure(1, 3, 7)", 5).dueSail(0, 4, 30, 34, 2, 1, 1, 2));
        Edge.test(23, "behind each minute in THE CHART (that in which she goes AGROUND, too): WATER less DRAUGHT", () ->
            Run.of("h20,30,30;t0;z30,34;r30,31,0,20;g0m1;")
            .dueSail(0, 1, 30, 31, 0, 0, -40, 1).due("ship(2, 29)", 30).dueSail(0, 1, 30, 30, 1, 0, 20, 1).due("until(0, 0, 2, 0)", 0)
            .dueSail(0, 2, 30, 31, 0, 0, -40, 2));
        Edge.test(23, "behind each minute in THE CHART", () -> Run.of("h0,57,29;t0;z60,30;r60,31,1,20;g3m2;")
            .dueSail(0, 2, 61, 31, 0, 0, 40, 1));
        Edge.test(23, "5, 6: NONE: there is none", () -> Run.of("h0,60,60;t0;z60,60;g2m1;").dueSail(0, 1, 61, 61, 0, 0, NONE, NONE));
        Edge.test(23, "5, 6: NONE: there is none", () -> Run.of("h0,60,60;t0;z60,60;g2a0;").dueSail(0, 0, 60, 60, 0, 0, NONE, NONE));
        Edge.test(23, "WATER less DRAUGHT", () -> Run.of("h0,0,30;t0,20;z60,30;g4m60;").dueSail(0, 60, 60, 30, 1, 1, 40, 20)
            .due("sail(20, 6)", 20).due("sail(19, 6)", 1)
            .due("ship(0, 20)", 0).due("sail(0, 5)", 20));
    }

    // 24
    private static void track() {
        String words = "behind its minute k (0: first of all): X (what = 0), Y (1), the LEG she went by in that minute (2; in minute 0 NONE); NONE: not so many minutes";
        Edge.test(24, words, () -> Run.of("h0,10,10;t0;z0,0;g3m2;g9m1;").dueRow("track(0, 0, *)", 10, 10, NONE)
            .dueRow("track(0, 1, *)", 12, 11, 0)
            .dueRow("track(0, 2, *)", 14, 12, 0).dueRow("track(0, 3, *)", 13, 10, 1).dueRow("track(0, 4, *)", NONE, NONE, NONE)
            .due("track(99, " + MOST + ", 0)", NONE));
        Edge.test(24, words, () -> Run.of("h0,0,30;t0;z0,0;g4m60;g12m60;g4m60;g12m60;g4m60;g12m60;").dueRow("track(0, 359, *)", 1, 30, 5)
            .dueRow("track(0, 360, *)", 0, 30, 5)
            .dueRow("track(0, 361, *)", NONE, NONE, NONE).dueRow("track(0, 300, *)", 60, 30, 4).dueRow("track(0, 301, *)", 59, 30, 5)
            .dueRow("track(99, 60, *)", 60, 30, 0));
        Edge.test(24, words, () -> Run.of("h0,59,30;t0;z0,0;g3m9;").dueRow("track(0, 1, *)", 61, 31, 0)
            .dueRow("track(0, 2, *)", NONE, NONE, NONE));
        Edge.test(24, words, () -> Run.of("h0,30,30;t0;z0,0;g0a0;").dueRow("track(0, 0, *)", 30, 30, NONE)
            .dueRow("track(0, 1, *)", NONE, NONE, NONE));
        Edge.test(24, words, () -> Run.of("h5,30,30;t0;z0,0;s30,32,0,4;g0m9;").dueRow("track(0, 2, *)", 30, 32, 0)
            .dueRow("track(0, 3, *)", NONE, NONE, NONE));
        Edge.test(24, "Of a VOYAGE from minute t on, behind its minute k", () -> Run.of("h5,30,30;t0,10;z0,0;s30,32,0,3;g0m3;")
            .dueRow("track(0, 2, *)", 30, 32, 0)
            .due("ship(0, 6)", 5).due("track(0, 3, 1)", NONE).due("track(1, 3, 1)", 33).due("track(1, 4, 1)", NONE));
        Edge.test(24, "NONE: not so many minutes. BAD; STATE: no SHEET (ahead of BAD).", () -> Run.of("h0,30,30;t0;z0,0;g0m1;")
            .dueAll(BAD, "track(-1, 0, 0)", "track(100, 0, 0)",
            "track(0, -1, 0)", "track(0, 0, -1)", "track(0, 0, 3)", "track(0, 9, 3)", "track(100, 9, 0)", "track(" + MOST + ", 0, 0)",
            "track(0, " + LEAST + ", 0)",
            "track(0, 0, " + MOST + ")").due("track(99, 1, 2)", 0));
        Edge.test(24, "STATE: no SHEET (ahead of BAD)", () -> Run.fresh().dueAll(STATE, "track(0, 0, 0)", "track(-1, 0, 0)",
            "track(0, -1, 0)", "track(0, 0, 3)", "track(100, 9, 9)"));
    }

    // 25
    private static void mistaken() {
        String words = "If T or U (T ahead of U) of its UNTIL is a THING that there is not, or no MARK (by e: no light), it is MISTAKEN, ahead of its first minute.";
        String head = "h0,30,30;t0;z30,40;b30,31,0,0;l30,31,0,0;u30,31,0,0;s50,50,0,0;r50,50,0,0;k50,50,0,0;";
        for (int t = 0; t < 8; t++) {
            int thing = t;
            Edge.test(25, words, () -> Run.of(head + "g0m3;g0a" + thing + ";g4m1;").dueWhy(0, thing <= 2 ? "1:3 10:37" : "1:1 9:" + thing)
                .dueSail(0, thing <= 2 ? 5 : 3, thing <= 2 ? 31 : 30, thing <= 2 ? 34 : 33, thing <= 2 ? 3 : 1, 0));
            Edge.test(25, "(by e: no light)", () -> Run.of(head + "g0m3;g0e" + thing + ";")
                .dueWhy(0, thing == 1 ? "1:1 2:31 3:3" : "1:1 9:" + thing)
                .due("sail(0, 0)", thing == 1 ? 31 : 3));
            Edge.test(25, "(T ahead of U)", () -> Run.of(head + "g0m3;g0i" + thing + ",0;")
                .dueWhy(0, thing <= 2 ? "1:2 10:36" : "1:1 9:" + thing)
                .due("until(1, 2, 0, " + thing + ")", 2).dueWhy(0, thing <= 2 ? "1:2 10:36" : "1:1 9:" + thing)
                .due("until(1, 2, 7, " + thing + ")", 2)
                .dueWhy(0, "1:1 9:7").due("until(1, 2, 4, " + thing + ")", 2).dueWhy(0, "1:1 9:4"));
        }
        Edge.test(25, "ahead of its first minute", () -> Run.of("h0,60,60;t0;z30,40;g0a0;").dueWhy(0, "1:0 9:0")
            .dueSail(0, 0, 60, 60, 0, 0));
        Edge.test(25, "then one LEG behind the other", () -> Run.of("h0,30,60;t0;z30,40;g0m3;g0a0;").dueWhy(0, "1:0 2:1 3:3"));
    }

    private static void whyOff() {
        String words = "3 OFF, 0 west, 1 east, 2 south, 3 north (the first that fits)";
        int[][] places = {{0, 30, 12, 0}, {60, 30, 4, 1}, {30, 0, 8, 2}, {30, 60, 0, 3}, {0, 0, 10, 0}, {0, 60, 14, 0}, {60, 0, 6, 1}, {60,
        60, 2, 1},
            {0, 0, 8, 2}, {60, 0, 8, 2}, {0, 60, 0, 3}, {60, 60, 0, 3}, {1, 30, 11, 0}, {59, 30, 3, 1}, {30, 1, 9, 2}, {30, 59, 1, 3}};
        for (int[] p : places) {
            Edge.test(25, words, () -> Run.of("h0," + p[0] + "," + p[1] + ";t0;z30,30;g" + p[2] + "m1;").dueWhy(0, "1:0 2:1 3:" + p[3]));
        }
        Edge.test(25, "1 VOYAGE, the number of the LEG", () -> Run.of("h0,30,30;t0;z30,30;g0m1;g0m1;g0m1;g0m1;g0m1;g4m60;")
            .dueWhy(0, "1:5 2:36 3:1"));
        Edge.test(25, "2 LEG, the minute of the VOYAGE (its first is 1)", () -> Run.of("h0,30,60;t0;z30,30;g0m1;")
            .dueWhy(0, "1:0 2:1 3:3"));
    }

    private static void whyAground() {
        String ebb = "6 EBB, how much less WATER is than DRAUGHT, if it would be as much with the greatest of all HEIGHTS in place of that minute's";
        String dry = "else by 7 DRY, how much less it would be then yet";
        Edge.test(25, ebb, () -> Run.of("h13,30,30;t0,10;z30,40;s30,31,0,3;g0m5;").dueWhy(0, "1:0 2:1 4:0 6:9").dueWhy(8, "1:0 2:1 4:0 6:1")
            .due("sail(9, 3)", 1)
            .dueWhy(10, "1:0 2:1 4:0 6:1").dueWhy(19, "1:0 2:1 4:0 6:10").due("ship(0, 14)", 13).dueWhy(9, "1:0 2:1 4:0 7:1")
            .dueWhy(0, "1:0 2:1 4:0 7:1"));
        Edge.test(25, dry, () -> Run.of("h20,30,30;t0,10;z30,40;s30,31,0,3;g0m5;").dueWhy(0, "1:0 2:1 4:0 7:7").due("become(0, 5)", 4)
            .dueWhy(0, "1:0 2:1 4:0 7:13")
            .due("measure(0, 3, 20)", 3).dueWhy(0, "1:0 2:1 4:0 7:30").due("ship(0, 0)", 20).dueWhy(0, "1:0 2:1 4:0 7:10"));
        Edge.test(25, "the greatest of all HEIGHTS", () -> {
            for (int k = 0; k < 6; k++) {
                Run run = Run.of("h9,30,30;t0,0,0,0,0,0;z30,40;s30,31,0,0;g0m5;").dueWhy(25, "1:0 2:1 4:0 7:9")
                    .due("tide(" + k + ", 8)", 0);
                int minute = k * 10 + 30;
                run.dueWhy(minute, "1:0 2:1 4:0 7:1").due("tide(" + k + ", 9)", 8).dueWhy(minute, "1:0 2:1 4:0 6:9")
                    .due("tide(" + k + ", 20)", 9)
                    .dueWhy(minute, "1:0 2:1 4:0 6:9");
            }
        });
        Edge.test(25, "the greatest of all HEIGHTS", () -> Run.of("h9,30,30;t0,20,20,20,20,20;z30,40;s30,31,0,0;g0m5;")
            .dueWhy(0, "1:0 2:1 4:0 6:7")
            .told("h9,30,30;t0;z30,40;s30,31,0,0;g0m5;").dueWhy(0, "1:0 2:1 4:0 7:9").told("h9,30,30;t0,1;z30,40;s30,31,0,0;g0m5;")
            .dueWhy(0, "1:0 2:1 4:0 7:8"));
        Edge.test(25, "4 AGROUND, the FIRST SHOAL", () -> Run.of("h9,30,30;t0;z30,40;b30,31,2,0;s30,31,1,5;k30,31,1,5;r30,31,0,2;g0m9;")
            .dueWhy(0, "1:0 2:1 4:3 7:11")
            .due("cut(0)", STATE).due("become(3, 2)", 5).dueWhy(0, "1:0 2:1 4:1 7:4").due("measure(2, 3, 4)", 5)
            .dueWhy(0, "1:0 2:1 4:2 7:5"));
        Edge.test(25, "2 LEG, the minute of the VOYAGE", () -> Run.of("h9,30,30;t0;z30,40;s30,38,0,8;g0m5;g0m5;")
            .dueWhy(0, "1:1 2:8 4:0 7:1"));
    }

    private static void whyOverdue() {
        String words = "by 5 OVERDUE, the sort of the UNTIL; that (a, i alone) by 8 UNSEEN, the first one of T, U that is not SEEN then; by nothing else, if they are";
        Edge.test(25, words, () -> Run.of("h0,0,30;t0;z60,30;b30,51,0,0;g4a0;").dueWhy(0, "1:0 2:60 5:1 8:0"));
        Edge.test(25, words, () -> Run.of("h0,0,30;t20;z60,30;u60,30,0,0;u60,34,0,0;u45,30,0,0;u60,41,0,0;g4a0;").dueWhy(0, "1:0 2:60 5:1")
            .due("until(0, 2, 0, 1)", 1)
            .dueWhy(0, "1:0 2:60 5:2").due("until(0, 2, 0, 2)", 2).due("measure(2, 1, 31)", 30).due("measure(2, 0, 44)", 45)
            .dueWhy(0, "1:0 2:60 5:2 8:2")
            .due("until(0, 2, 3, 2)", 2).dueWhy(0, "1:0 2:60 5:2 8:3").due("until(0, 2, 2, 3)", 2).dueWhy(0, "1:0 2:60 5:2 8:2")
            .due("until(0, 2, 3, 0)", 2)
            .dueWhy(0, "1:0 2:60 5:2 8:3"));
        Edge.test(25, "(a, i alone)", () -> Run.of("h0,0,30;t0;z60,30;l0,60,0,4;g4e0;").dueWhy(0, "1:0 2:60 5:3").due("measure(0, 2, 4)", 0)
            .due("measure(0, 3, 12)", 4)
            .dueWhy(0, "1:0 2:60 5:3").due("until(0, 4, 39, 0)", 3).dueWhy(0, "1:0 2:60 5:4"));
        Edge.test(25, "that is not SEEN then", () -> Run.of("h0,0,30;t20,4,20,4,20,16;z60,30;u60,38,0,0;g4a0;").dueWhy(0, "1:0 2:60 5:1")
            .due("measure(0, 1, 39)", 38)
            .dueWhy(0, "1:0 2:60 5:1 8:0").due("tide(0, 16)", 20).dueWhy(0, "1:0 2:60 5:1").due("tide(0, 0)", 16).dueWhy(0, ""));
    }

    private static void whyMissed() {
        Edge.test(25, "1 VOYAGE, the number of the LEG (how many LEGS there are, if she MISSED)", () -> Run.of("h0,30,30;t0;z33,32;g0m1;")
            .dueWhy(0, "1:1 10:10")
            .due("add(1, 0, 0, 1, 0)", 2).dueWhy(0, "").due("add(2, 12, 0, 1, 0)", 3).dueWhy(0, "1:3 10:16"));
        Edge.test(25, "10 MISSED, the square of how far off she is", () -> Run.of("h0,0,1;t0;z60,60;g8m1;").dueWhy(0, "1:1 10:7200")
            .due("ship(3, 0)", 60).due("ship(4, 4)", 60)
            .dueWhy(0, "1:1 10:16").due("ship(4, 3)", 4).dueWhy(0, ""));
    }

    private static void whyRefusals() {
        Edge.test(25, "cause i (0 the outermost): its kind (what = 0), its number (1); NONE: not so many. BAD; STATE: no SHEET (ahead of BAD).", () ->
            Run.of("h0,30,30;t0;z0,0;g0m1;").dueAll(BAD, "why(-1, 0, 0)", "why(100, 0, 0)", "why(0, -1, 0)", "why(0, 0, -1)",
            "why(0, 0, 2)", "why(0, 9, 2)", "why(100, 9, 0)",
                "why(" + MOST + ", 0, 0)", "why(0, " + LEAST + ", 0)", "why(0, 0, " + MOST + ")").dueWhy(99, "1:1 10:1861")
                .due("why(0, " + MOST + ", 0)", NONE));
        Edge.test(25, "STATE: no SHEET (ahead of BAD)", () -> Run.fresh().dueAll(STATE, "why(0, 0, 0)", "why(-1, 0, 0)", "why(0, -1, 0)",
            "why(0, 0, 2)"));
        Edge.test(25, "NONE: not so many", () -> Run.of("h0,30,30;t0;z30,31;g0m1;")
            .dueAll(NONE, "why(0, 0, 0)", "why(0, 0, 1)", "why(99, 3, 0)"));
    }

    // 26
    private static void log() {
        Edge.test(26, "the NAME of its COURSE in great letters (A to Z)", () -> {
            String[] names = {"N", "NNE", "NE", "ENE", "E", "ESE", "SE", "SSE", "S", "SSW", "SW", "WSW", "W", "WNW", "NW", "NNW"};
            for (int course = 0; course < 16; course++) {
                Run.of("h0,30,30;t0;z30,30;g" + course + "m1;").dueLog(0, names[course] + "1;.");
            }
        });
        String minutes = "how many minutes of it there were (figures, no noughts ahead), a sign ;";
        Edge.test(26, minutes, () -> Run.of("h0,0,30;t0;z60,30;g4m9;").dueLog(0, "E9;!1,10").due("until(0, 0, 10, 0)", 0)
            .dueLog(0, "E10;!1,10").due("until(0, 0, 11, 0)", 0)
            .dueLog(0, "E11;!1,10").due("until(0, 0, 20, 0)", 0).dueLog(0, "E20;!1,10").due("until(0, 0, 59, 0)", 0).dueLog(0, "E59;.")
            .due("until(0, 0, 60, 0)", 0)
            .dueLog(0, "E60;."));
        Edge.test(26, "of each LEG that was begun (MISTAKEN, too)", () -> Run.of("h0,30,30;t0;z60,30;g13m3;g9m10;g0a5;g4m1;")
            .dueLog(0, "WNW3;SSW10;N0;!1,9"));
        Edge.test(26, "of each LEG that was begun (MISTAKEN, too)", () -> Run.of("h0,30,30;t0;z60,30;g15a0;g4m1;").dueLog(0, "NNW0;!1,9"));
        Edge.test(26, "of each LEG that was begun (MISTAKEN, too)", () -> Run.of("h0,30,30;t0;z60,30;g0m3;g0m15;").dueLog(0, "N3;N15;!1,10")
            .due("until(1, 1, 5, 0)", 0)
            .dueLog(0, "N3;N0;!1,9").due("until(1, 3, 0, 0)", 1).dueLog(99, "N3;N0;!1,9").due("until(0, 2, 0, 0)", 0).dueLog(0, "N0;!1,9"));
        Edge.test(26, "of each LEG that was begun", () -> Run.of("h0,30,30;t0;z60,30;g0m5;g12m60;g4m1;").dueLog(0, "N5;W31;!1,2,3"));
        Edge.test(26, "in the end a sign . if she ARRIVES, else a sign ! and kinds of all causes (figures), a sign , between two", () ->
            Run.of("h0,0,30;t0;z60,30;b30,60,0,0;s2,30,0,0;g4a0;").dueLog(0, "E60;!1,2,5,8").due("ship(0, 1)", 0).dueLog(0, "E2;!1,2,4,7")
            .due("tide(0, 2)", 0)
                .dueLog(0, "E60;!1,2,5,8").due("until(0, 4, 0, 0)", 1).dueLog(0, "E60;!1,2,5").due("until(0, 0, 60, 0)", 4)
                .dueLog(0, "E60;.").due("ship(3, 0)", 60)
                .dueLog(0, "E60;!1,10"));
        Edge.test(26, "in the end a sign . if she ARRIVES", () -> Run.of("h5,30,30;t0,10;z30,31;s30,31,0,0;g0m1;").dueLog(0, "N1;!1,2,4,6")
            .dueLog(4, "N1;.").dueLog(99, "N1;!1,2,4,6"));
        Edge.test(26, "THE LOG", () -> Run.of("h9,0,11;t0,10,10;z0,0;k20,11,1,3;g1m10;g7m10;g15m10;g9m10;g1m10;g7m10;")
            .dueLog(0, "NNE10;SSE10;NNW10;SSW10;NNE10;SSE10;!1,2,4,6"));
    }

    private static void logRefusals() {
        Edge.test(26, "Sign i of THE LOG of a VOYAGE from minute t on (0 on; a code); NONE: not so many. BAD; STATE: no SHEET (ahead of BAD).", () ->
            Run.of("h0,30,30;t0;z30,31;g0m1;").due("sign(0, 0)", 'N').due("sign(99, 3)", '.')
            .dueAll(NONE, "sign(0, 4)", "sign(0, 63)", "sign(0, 64)", "sign(0, " + MOST + ")")
                .dueAll(BAD, "sign(-1, 0)", "sign(100, 0)", "sign(0, -1)", "sign(100, 99)", "sign(" + MOST + ", 0)", "sign(" + LEAST
                + ", 0)", "sign(0, " + LEAST + ")"));
        Edge.test(26, "STATE: no SHEET (ahead of BAD)", () -> Run.fresh().dueAll(STATE, "sign(0, 0)", "sign(-1, 0)", "sign(0, -1)",
            "sign(100, 99)"));
        Edge.test(26, "NONE: not so many", () -> Run.of("h0,30,30;t0;z30,31;g0m10;").due("sign(0, 8)", '0').due("sign(0, 9)", NONE)
            .due("until(0, 0, 1, 0)", 0).due("sign(0, 3)", '.')
            .due("sign(0, 4)", NONE).due("sign(0, 8)", NONE));
    }
}
