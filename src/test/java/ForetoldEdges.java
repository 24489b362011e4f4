/** The edges of the document's part 4: what voyages would be; promises 27 to 33. */
final class ForetoldEdges {
    private static final int NONE = Run.NONE, BAD = Run.BAD, STATE = Run.STATE, FULL = Run.FULL;
    private static final int LEAST = Run.LEAST, MOST = Run.MOST;
    private static final int ALL_TIMES = (1 << 30) - 1;

    /** Three legs of one minute each, if no mark is out: else she goes on for long. */
    private static final String MARKED = "h0,30,30;t0;z30,33;b30,30,0,0;l30,30,0,0;u30,30,0,0;s30,39,0,0;g0a0;g0i1,0;g0a2;";

    private ForetoldEdges() {
    }

    static void all() {
        times();
        deepest();
        courses();
        neededOtherwise();
        neededOut();
        near();
        outFractions();
        outMarks();
        outFull();
        drawn();
        drawnRefusals();
    }

    // 27
    private static void times() {
        String words = "Minutes t (bits, 0 to 29) from which on a VOYAGE ARRIVES.";
        Edge.test(27, words, () -> Run.of("h0,30,30;t0;z30,31;g0m1;").due("times()", ALL_TIMES));
        Edge.test(27, words, () -> Run.of("h18,30,30;t20,0,0,0,0,0;z30,31;s30,31,0,0;g0m1;").due("times()", 1).due("ship(0, 19)", 18)
            .due("times()", 0)
            .due("ship(0, 16)", 19).due("times()", 3));
        Edge.test(27, words, () -> Run.of("h19,30,30;t0,0,0,20,0,0;z30,31;s30,31,0,0;g0m1;").due("times()", 1 << 29).due("ship(0, 18)", 19)
            .due("sail(30, 4)", 1)
            .due("times()", 1 << 28 | 1 << 29).due("ship(0, 0)", 18).due("times()", ALL_TIMES));
        Edge.test(27, words, () -> Run.of("h0,30,30;t0;z30,35;g0m1;").due("times()", 0));
        Edge.test(27, words, () -> Run.of(MARKED).due("times()", ALL_TIMES));
        Edge.test(27, "STATE: no SHEET.", () -> Run.fresh().due("times()", STATE));
    }

    // 28
    private static void deepest() {
        String words = "The greatest DRAUGHT (0 to 20) by which a VOYAGE from minute t on ARRIVES; NONE.";
        Edge.test(28, words, () -> {
            for (int b = 0; b <= 20; b++) {
                Run.of("h20,30,30;t0;z30,31;s30,31,0," + b + ";g0m1;").due("deepest(0)", b).due("tide(0, 1)", 0)
                .due("deepest(0)", Math.min(20, b + 1))
                    .due("become(0, 5)", 4).due("deepest(0)", b > 1 ? NONE : 1 - b).due("become(0, 1)", 5).due("deepest(0)", 20);
            }
        });
        Edge.test(28, words, () -> Run.of("h9,30,30;t0;z30,33;s30,31,0,9;s30,32,0,7;s30,33,0,8;s30,34,0,0;g0m1;g0m2;").due("deepest(0)", 7)
            .due("sail(0, 4)", 0)
            .due("ship(0, 7)", 9).due("sail(0, 4)", 1));
        Edge.test(28, words, () -> Run.of("h20,30,30;t0,10;z30,31;s30,31,0,7;g0m1;").due("deepest(0)", 8).due("deepest(9)", 17)
            .due("deepest(99)", 7)
            .dueAll(BAD, "deepest(-1)", "deepest(100)", "deepest(" + MOST + ")", "deepest(" + LEAST + ")").due("ship(0, 1)", 20));
        Edge.test(28, words, () -> Run.of("h0,30,30;t0;z30,35;g0m1;").due("deepest(0)", NONE).due("ship(2, 60)", 30).due("deepest(0)", NONE)
            .due("until(0, 1, 0, 0)", 0)
            .due("deepest(0)", NONE).due("ship(2, 0)", 60).due("until(0, 4, 0, 0)", 1).due("deepest(0)", NONE));
        Edge.test(28, "by which a VOYAGE from minute t on ARRIVES", () -> Run.of("h0,30,30;t0;z30,33;s30,32,0,9;s30,33,0,4;g0d9;")
            .due("deepest(0)", 9)
            .due("until(0, 4, 8, 0)", 4).due("deepest(0)", 4));
        Edge.test(28, "by which a VOYAGE from minute t on ARRIVES", () -> Run.of(MARKED).due("deepest(0)", 20));
        Edge.test(28, "STATE: no SHEET (ahead of BAD)", () -> Run.fresh().dueAll(STATE, "deepest(0)", "deepest(-1)", "deepest(100)"));
    }

    // 29
    private static void courses() {
        String words = "COURSES (bits) by which, in place of that of a LEG, a VOYAGE from minute t on ARRIVES.";
        String[] sheets = {"h5,30,30;t0;z30,32;g0m2;", "h5,30,30;t0,9;z33,33;s30,32,1,1;b31,35,0,0;g3m2;g0a0;",
            "h0,30,30;t0;z31,30;g4m1;g8m2;g0m2;",
            "h0,30,30;t0;z29,40;b29,50,0,0;l33,35,9,3;g8e1;g0a0;"};
        for (String sheet : sheets) {
            Edge.test(29, words, () -> {
                Run run = Run.of(sheet);
                long legs = run.ask("count(3)");
                for (int leg = 0; leg < legs; leg++) {
                    long was = run.ask("leg(" + leg + ", 0)");
                    for (int t = 0; t < 100; t += 33) {
                        int want = 0;
                        for (int course = 0; course < 16; course++) {
                            run.ask("steer(" + leg + ", " + course + ")");
                            want |= run.ask("sail(" + t + ", 4)") == 1 ? 1 << course : 0;
                        }
                        run.ask("steer(" + leg + ", " + was + ")");
                        Run.of(sheet).due("courses(" + leg + ", " + t + ")", want).due("leg(" + leg + ", 0)", was).due("count(5)", 0);
                    }
                    run = Run.of(sheet);
                }
            });
        }
        Edge.test(29, words, () -> Run.of("h5,30,30;t0;z30,32;g0m2;").due("courses(0, 0)",
            1 | 1 << 1 | 1 << 2 | 1 << 4 | 1 << 12 | 1 << 14 | 1 << 15)
            .due("ship(4, 60)", 32).due("courses(0, 0)", 0).due("ship(4, 30)", 60).due("until(0, 0, 1, 0)", 0)
            .due("courses(0, 99)", (1 << 16) - 1));
        Edge.test(29, words, () -> Run.of(MARKED).due("courses(0, 0)", 65535 & ~(1 << 7 | 1 << 9))
            .due("courses(2, 0)", 65535 & ~(1 << 7 | 1 << 9)));
        Edge.test(29, "a VOYAGE from minute t on ARRIVES. BAD.", () -> Run.of("h0,30,30;t0;z30,32;g0m1;g0m1;")
            .dueAll(BAD, "courses(-1, 0)", "courses(2, 0)", "courses(6, 0)",
            "courses(0, -1)", "courses(0, 100)", "courses(" + MOST + ", 0)", "courses(0, " + LEAST + ")")
            .due("courses(1, 99)", 65535 & ~(1 << 7 | 1 << 9)));
        Edge.test(29, "there is no such thing", () -> Run.fresh().dueAll(BAD, "courses(0, 0)", "courses(0, 100)", "courses(-1, 0)"));
    }

    // 30
    private static void neededOtherwise() {
        String words = "would end otherwise: she ARRIVES or does not, how many minutes, X or Y in the end";
        Edge.test(30, words, () -> Run.of("h0,0,30;t0;z60,30;b60,30,0,0;g4a0;").due("sail(0, 4)", 1).due("needed(0)", 1)
            .due("ship(3, 0)", 60).due("needed(0)", 0));
        Edge.test(30, words, () -> Run.of("h0,1,30;t0;z0,0;b30,30,0,0;g4a0;g12m1;g4m60;").dueSail(0, 62, 61, 30, 2, 0).due("needed(0)", 1));
        Edge.test(30, words, () -> Run.of("h0,50,0;t0;z0,0;b50,20,0,0;g0a0;g14m10;g0m30;").dueSail(0, 60, 40, 60, 3, 0).due("needed(0)", 1)
            .due("steer(1, 0)", 14).due("needed(0)", 0));
        Edge.test(30, words, () -> Run.of("h0,0,50;t0;z0,0;b20,50,0,0;g4a0;g6m10;g4m30;").dueSail(0, 60, 60, 40, 3, 0).due("needed(0)", 1)
            .due("steer(1, 4)", 6).due("needed(0)", 0));
        Edge.test(30, words, () -> Run.of("h0,30,30;t0;z0,0;b30,30,0,0;g0m5;").due("needed(0)", 0));
    }

    private static void neededOut() {
        Edge.test(30, "What is OUT is never SEEN.", () -> Run.of("h0,20,40;t0;z30,40;l30,30,0,4;g4e0;").due("needed(0)", 1)
            .due("ship(1, 35)", 20).due("steer(0, 12)", 4)
            .due("sail(0, 0)", 6).due("needed(0)", 1));
        Edge.test(30, "MARKS (bits): if that one were OUT", () ->
            Run.of("h0,30,30;t0;z30,33;b30,30,0,0;s30,30,0,20;u30,29,0,0;l9,9,0,0;k1,1,1,1;b30,31,0,0;b1,1,1,1;l9,9,0,0;g0a7;g0i0,2;g0a5;")
            .due("needed(0)", 1 | 4 | 32 | 128).due("until(0, 0, 1, 0)", 1).due("needed(0)", 1 | 4 | 32).due("until(1, 0, 1, 0)", 2)
            .due("needed(99)", 32)
            .due("until(2, 4, 60, 0)", 1).due("needed(0)", 0));
        Edge.test(30, "a VOYAGE from minute t on would end otherwise", () ->
            Run.of("h6,30,30;t0,10;z30,34;s30,31,0,4;b30,33,0,0;g0m2;g0a1;").due("sail(0, 0)", 1).due("needed(0)", 0)
            .due("sail(1, 4)", 1).due("needed(1)", 2));
        Edge.test(30, "X or Y in the end. BAD; STATE: no SHEET (ahead of BAD).", () -> Run.of("h0,30,30;t0;z30,33;b30,33,0,0;g0a0;")
            .due("needed(0)", 1).due("needed(99)", 1)
            .dueAll(BAD, "needed(-1)", "needed(100)", "needed(" + MOST + ")", "needed(" + LEAST + ")"));
        Edge.test(30, "STATE: no SHEET (ahead of BAD)", () -> Run.fresh().dueAll(STATE, "needed(0)", "needed(-1)", "needed(100)"));
    }

    // 31
    private static void near() {
        String words = "The least square of how far she is from where a THING is (its own X, Y), first of all and behind each minute of a VOYAGE from minute t on. BAD.";
        Edge.test(31, words, () -> Run.of("h0,10,10;t20;z0,0;b5,10,0,0;u20,14,0,0;s60,60,15,0;r10,10,3,3;k31,10,9,9;l25,10,0,0;g4m20;")
            .due("near(0, 0)", 25).due("near(1, 0)", 16)
            .due("near(2, 0)", 900 + 2500).due("near(3, 0)", 0).due("near(4, 0)", 1).due("near(5, 0)", 0));
        Edge.test(31, "behind each minute of a VOYAGE", () -> Run.of("h0,57,29;t0;z0,0;b60,32,0,0;g3m9;").due("near(0, 0)", 2));
        Edge.test(31, "behind each minute of a VOYAGE", () -> Run.of("h9,30,30;t0,10;z0,0;s30,32,0,3;b30,33,0,0;g0m5;").due("sail(0, 0)", 2)
            .due("near(1, 0)", 1)
            .due("sail(8, 0)", 5).due("near(1, 8)", 0));
        Edge.test(31, "first of all and behind each minute", () -> Run.of("h0,0,0;t0;z0,0;s60,60,0,0;g0a0;").due("near(0, 0)", 7200)
            .due("until(0, 0, 60, 0)", 1).due("near(0, 99)", 3600)
            .due("steer(0, 8)", 0).due("near(0, 0)", 7200));
        Edge.test(31, words, () -> Run.of("h0,30,30;t0;z0,0;b0,0,0,0;b1,1,1,1;g0m1;").due("near(1, 99)", 29 * 29 * 2)
            .dueAll(BAD, "near(-1, 0)", "near(2, 0)", "near(8, 0)", "near(0, -1)",
            "near(0, 100)", "near(" + MOST + ", 0)", "near(0, " + LEAST + ")"));
        Edge.test(31, "behind each minute of a VOYAGE", () -> Run.of(MARKED).due("near(3, 0)", 36));
        Edge.test(31, "there is no such thing", () -> Run.fresh().dueAll(BAD, "near(0, 0)", "near(0, 100)", "near(-1, 0)"));
    }

    private static long shared(long a, long b) {
        return b == 0 ? a : shared(b, a % b);
    }

    /** She arrives just when none of so many marks is out. */
    private static void fractions(Run run, int marks) {
        for (int p = 0; p <= 10; p++) {
            long above = 1;
            long below = 1;
            for (int i = 0; i < marks; i++) {
                above *= 10 - p;
                below *= 10;
            }
            long by = shared(above, below);
            run.due("out(0, " + p + ", 0)", above / by).due("out(0, " + p + ", 1)", below / by);
        }
    }

    /** Six beacons where she lies, each two of them in line at once, and two more things. */
    private static final String SIX_MARKS = "h0,30,30;t0;z30,33;" + "b30,30,0,0;".repeat(6) + "b9,9,0,0;l9,9,0,0;g0i0,1;g0i2,3;g0i4,5;";

    // 32
    private static void outFractions() {
        String words = "how likely she ARRIVES: a fraction";
        Edge.test(32, "fractions, told as two numbers in lowest terms (0 is 0 by 1)", () ->
            fractions(Run.of("h0,30,30;t0;z30,33;b30,31,0,0;g0a0;"), 1));
        Edge.test(32, "fractions, told as two numbers in lowest terms (0 is 0 by 1)", () ->
            fractions(Run.of("h0,30,30;t0;z30,33;b30,30,0,0;b30,30,0,0;g0i0,1;"), 2));
        Edge.test(32, "fractions, told as two numbers in lowest terms (0 is 0 by 1)", () -> fractions(Run.of(SIX_MARKS)
            .due("sail(0, 4)", 1), 6));
        Edge.test(32, words, () -> fractions(Run.of("h0,30,30;t0;z30,33;b30,31,0,0;g0m2;"), 0));
        Edge.test(32, "(0 is 0 by 1)", () -> {
            Run run = Run.of("h0,30,30;t0;z30,43;b30,30,0,0;b30,30,0,0;g0i0,1;");
            for (int p = 0; p <= 10; p++) {
                run.due("out(0, " + p + ", 0)", 0).due("out(0, " + p + ", 1)", 1);
            }
        });
        Edge.test(32, "OUT by p of 10 (0 to 10)", () -> Run.of("h0,30,30;t0;z30,33;b30,31,0,0;g0a0;").due("out(0, 0, 0)", 1)
            .due("out(0, 10, 0)", 0).due("out(0, 10, 1)", 1)
            .due("out(99, 3, 0)", 7).due("out(99, 3, 1)", 10).dueAll(BAD, "out(0, -1, 0)", "out(0, 11, 0)", "out(-1, 0, 0)",
            "out(100, 0, 0)", "out(0, 0, -1)", "out(0, 0, 2)",
                "out(" + MOST + ", 0, 0)", "out(0, " + LEAST + ", 0)", "out(0, 0, " + MOST + ")"));
        Edge.test(32, "OUT by p, from minute t on", () -> Run.of("h6,30,30;t0,10;z30,34;s30,31,0,4;b30,33,0,0;g0m2;g0a1;")
            .due("out(0, 2, 0)", 0).due("out(0, 2, 1)", 1)
            .due("out(1, 2, 0)", 4).due("out(1, 2, 1)", 5));
    }

    private static void outMarks() {
        String words = "each MARK that is T or U of a LEG's UNTIL (a, i, e) is OUT in p of 10 cases, apart";
        Edge.test(32, words, () -> fractions(Run.of("h0,30,30;t0;z30,33;b30,30,0,0;b30,30,0,0;g0i0,0;g0a0;g0i0,0;"), 1));
        Edge.test(32, words, () -> fractions(Run.of("h0,30,30;t0;z30,33;b30,30,0,0;b30,30,0,0;u30,30,0,0;g0i0,1;g0i1,2;g0i2,0;"), 3));
        Edge.test(32, words, () -> fractions(Run.of("h0,35,40;t0;z31,40;l30,30,0,4;b1,1,0,0;g12e0;"), 1));
        Edge.test(32, words, () -> fractions(Run.of("h0,30,30;t0;z30,33;b30,30,0,0;b30,30,0,0;g0m1;g0d60;"), 0));
        Edge.test(32, words, () -> fractions(Run.of("h0,30,30;t0;z30,33;b30,30,0,0;b30,30,0,0;s9,9,0,0;g0m1;g0a1;g0m2;"), 1));
    }

    private static void outFull() {
        String words = "FULL: there are more than 6 such MARKS";
        Edge.test(32, words, () -> Run.of(SIX_MARKS).due("out(0, 1, 0)", 531441).due("out(0, 1, 1)", 1000000).due("add(3, 0, 1, 6, 0)", 4)
            .dueAll(FULL, "out(0, 1, 0)", "out(0, 0, 1)",
            "out(99, 10, 0)").dueAll(BAD, "out(0, 11, 0)", "out(100, 1, 0)", "out(0, 1, 2)").due("add(4, 0, 3, 7, 0)", 5)
            .due("out(0, 1, 0)", FULL).due("cut(3)", 4)
            .due("out(0, 1, 0)", FULL).due("become(7, 4)", 2).due("out(0, 1, 0)", 0).due("become(7, 1)", 4).due("out(0, 1, 0)", FULL)
            .due("cut(3)", 3).due("out(0, 1, 0)", 531441));
        Edge.test(32, words, () -> Run.of(SIX_MARKS).due("add(0, 0, 0, 6, 0)", 4).due("out(0, 5, 1)", 1).due("until(0, 4, 7, 0)", 0)
            .due("out(0, 5, 1)", 1).due("until(0, 4, 40, 0)", 4)
            .due("out(0, 5, 1)", 64).due("until(0, 1, 6, 0)", 4).due("out(0, 5, 1)", FULL).due("until(0, 2, 0, 6)", 1)
            .due("out(0, 5, 1)", FULL).due("until(0, 2, 6, 0)", 2)
            .due("out(0, 5, 1)", FULL).due("become(6, 5)", 1).due("out(0, 5, 1)", 1));
        Edge.test(32, words, () -> Run.of("h0,30,60;t0;z0,0;" + "b30,30,0,0;".repeat(7) + "g0m1;g0i0,1;g0i2,3;g0i4,5;g0a6;")
            .due("sail(0, 4)", 0).due("out(0, 5, 0)", FULL)
            .due("until(4, 1, 7, 0)", 1).due("out(0, 5, 0)", 0).due("out(0, 5, 1)", 1));
        Edge.test(32, words, () -> Run.of("h0,30,30;t0;z30,30;" + "b30,30,0,0;".repeat(7) + "g0i1,2;g0i3,4;g0i5,6;g0a7;")
            .due("out(0, 5, 0)", 0).due("out(0, 5, 1)", 1)
            .due("until(3, 2, 7, 6)", 1).due("out(0, 5, 1)", 1).due("until(3, 2, 6, 7)", 2).due("out(0, 5, 1)", 1)
            .due("until(3, 1, 0, 0)", 2).due("out(0, 5, 1)", FULL));
        Edge.test(32, "BAD; STATE: no SHEET (ahead of BAD); FULL", () -> Run.fresh()
            .dueAll(STATE, "out(0, 0, 0)", "out(-1, 0, 0)", "out(0, 11, 0)", "out(0, 0, 2)"));
    }

    // 33
    private static void drawn() {
        String sheet = "h20,30,30;t0,20;z30,32;s30,31,0,3;g0m2;g0m3;g8m3;";
        String words = "ahead of each X becomes the rest of (X times 16807) by 2147483647; a VOYAGE from that minute on which X leaves by 100, by that DRAUGHT which X by 128 (cut) leaves by 21";
        for (int first : new int[] {1, 2, 77, 16807, 127773, 524287, 999998, 999999}) {
            Edge.test(33, words, () -> {
                Run apart = Run.of(sheet);
                Run run = Run.of(sheet);
                long x = first;
                long arrivals = 0;
                long minutes = 0;
                for (int n = 0; n <= 12; n++) {
                    run.due("drawn(" + n + ", " + first + ", 0)", arrivals).due("drawn(" + n + ", " + first + ", 1)", minutes);
                    x = x * 16807L % 2147483647L;
                    apart.ask("ship(0, " + x / 128 % 21 + ")");
                    arrivals += apart.ask("sail(" + x % 100 + ", 4)");
                    minutes += apart.ask("sail(" + x % 100 + ", 0)");
                }
                run.due("ship(0, 1)", 20);
            });
        }
        Edge.test(33, words, () -> Run.of("h20,30,30;t0;z30,32;s30,31,0,5;g0m2;").due("drawn(1, 1, 0)", 1).due("drawn(1, 1, 1)", 2)
            .due("measure(0, 3, 4)", 5)
            .due("drawn(1, 1, 0)", 0).due("drawn(1, 1, 1)", 1));
        Edge.test(33, words, () -> Run.of(MARKED).due("drawn(12, 5, 0)", 12).due("drawn(12, 5, 1)", 36));
        Edge.test(33, words, () -> Run.of("h20,30,30;t5,0;z30,32;s30,31,0,4;g0m2;").due("drawn(1, 1, 0)", 1).due("tide(0, 0)", 5)
            .due("drawn(1, 1, 0)", 0).due("tide(1, 1)", 0)
            .due("drawn(1, 1, 0)", 0).due("tide(1, 2)", 1).due("drawn(1, 1, 0)", 1));
    }

    private static void drawnRefusals() {
        Edge.test(33, "YEARS of n times (0 to 12)", () -> Run.of("h0,30,30;t0;z30,32;g0m2;").due("drawn(0, 1, 0)", 0)
            .due("drawn(0, 1, 1)", 0).due("drawn(12, 1, 0)", 12)
            .due("drawn(12, 1, 1)", 24).due("drawn(1, 999999, 0)", 1).dueAll(BAD, "drawn(-1, 1, 0)", "drawn(13, 1, 0)", "drawn(" + MOST
            + ", 1, 0)", "drawn(" + LEAST + ", 1, 0)"));
        Edge.test(33, "YEARS by a SEED (1 to 999999)", () -> Run.of("h0,30,30;t0;z30,32;g0m2;")
            .dueAll(BAD, "drawn(1, 0, 0)", "drawn(1, 1000000, 0)", "drawn(1, -1, 0)", "drawn(0, 0, 0)",
            "drawn(1, " + MOST + ", 0)", "drawn(1, " + LEAST + ", 0)"));
        Edge.test(33, "minutes of all n VOYAGES, together (1). BAD; STATE: no SHEET (ahead of BAD).", () ->
            Run.of("h0,30,30;t0;z30,32;g0m2;").dueAll(BAD, "drawn(1, 1, -1)",
            "drawn(1, 1, 2)", "drawn(0, 1, " + MOST + ")"));
        Edge.test(33, "STATE: no SHEET (ahead of BAD)", () -> Run.fresh().dueAll(STATE, "drawn(0, 1, 0)", "drawn(13, 1, 0)",
            "drawn(0, 0, 0)", "drawn(0, 1, 2)"));
    }
}
