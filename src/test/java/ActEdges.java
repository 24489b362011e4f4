/** The edges of acts, of what they tell anew, of undoing them, of images and of counts; promises 6 to 16 and 34 to 36. */
final class ActEdges {
    private static final int NONE = Run.NONE, BAD = Run.BAD, STATE = Run.STATE, FULL = Run.FULL;
    private static final int LEAST = Run.LEAST, MOST = Run.MOST;
    /** A beacon, a buoy, a shoal; three legs; two heights. */
    private static final String SHEET = "h3,10,12;t8,20;z30,40;b30,45,1,2;u5,6,0,0;s18,14,2,9;g2m4;g4i0,1;g6d3;";
    private static final String SIX_HEIGHTS = "h3,10,12;t1,2,3,4,5,6;z30,40;g2m4;";
    private static final String ONE_LEG = "h3,10,12;t8;z30,40;g2m4;";
    private static final String SIX_LEGS = "h3,10,12;t8;z30,40;g0m1;g1m2;g2m3;g3m4;g4m5;g5m6;";

    private ActEdges() {
    }

    static void all() {
        undoNone();
        undoAtMostTwenty();
        undoRing();
        undoEachAct();
        measure();
        become();
        ship();
        tide();
        steer();
        until();
        add();
        cut();
        thing();
        leg();
        image();
        restore();
        count();
    }

    // 6
    private static void undoNone() {
        Edge.test(6, "The latest ACT is undone: how many can be undone yet. STATE: none.", () -> Run.fresh().due("undo()", STATE));
        Edge.test(6, "STATE: none.", () -> Run.of(SHEET).due("undo()", STATE).due("count(5)", 0));
        Edge.test(6, "STATE: none.", () -> Run.of(SHEET).due("ship(0, 4)", 3).due("undo()", 0).due("undo()", STATE).due("ship(0, 3)", 3));
        Edge.test(6, "each can be undone, the latest first", () -> Run.of(SHEET).due("ship(1, 11)", 10).due("ship(1, 12)", 11)
            .due("ship(2, 13)", 12).due("undo()", 2).due("track(0, 0, 0)", 12).due("track(0, 0, 1)", 12).due("undo()", 1)
            .due("track(0, 0, 0)", 11).due("undo()", 0).due("track(0, 0, 0)", 10).due("undo()", STATE));
        Edge.test(6, "also such by which nothing becomes another", () -> Run.of(SHEET).due("measure(0, 0, 30)", 30).due("ship(0, 3)", 3)
            .due("tide(0, 8)", 8).due("steer(0, 2)", 2).due("until(0, 0, 4, 0)", 0).due("until(1, 2, 0, 1)", 2).due("count(5)", 6)
            .dueAll(5, "undo()").dueAll(4, "undo()").dueAll(3, "undo()").dueAll(2, "undo()").dueAll(1, "undo()").dueAll(0, "undo()")
            .due("undo()", STATE));
        Edge.test(6, "how many can be undone yet", () -> Run.of(SHEET).due("ship(0, 4)", 3).due("ship(0, 5)", 4).due("undo()", 1)
            .due("ship(0, 6)", 4).due("count(5)", 2).due("undo()", 1).due("ship(0, 4)", 4).due("undo()", 1).due("undo()", 0)
            .due("ship(0, 1)", 3));
    }

    private static void undoAtMostTwenty() {
        Edge.test(6, "20 at most are kept, of more the oldest is forgotten", () -> {
            Run run = Run.of(ONE_LEG);
            for (int i = 1; i <= 20; i++) {
                run.due("ship(1, " + i + ")", i == 1 ? 10 : i - 1).due("count(5)", i);
            }
            for (int left = 19; left >= 0; left--) {
                run.due("undo()", left).due("track(0, 0, 0)", left == 0 ? 10 : left);
            }
            run.due("undo()", STATE).due("track(0, 0, 0)", 10);
        });
        Edge.test(6, "20 at most are kept, of more the oldest is forgotten", () -> {
            Run run = Run.of(ONE_LEG);
            for (int i = 1; i <= 21; i++) {
                run.due("ship(1, " + i + ")", i == 1 ? 10 : i - 1).due("count(5)", Math.min(i, 20));
            }
            for (int left = 19; left >= 0; left--) {
                run.due("undo()", left).due("track(0, 0, 0)", left + 1);
            }
            run.due("undo()", STATE).due("track(0, 0, 0)", 1);
        });
        Edge.test(6, "20 at most are kept, of more the oldest is forgotten", () -> {
            Run run = Run.of(ONE_LEG);
            for (int i = 1; i <= 55; i++) {
                run.ask("ship(1, " + i + ")");
            }
            run.due("count(5)", 20);
            for (int left = 19; left >= 0; left--) {
                run.due("undo()", left).due("track(0, 0, 0)", left + 35);
            }
            run.due("undo()", STATE).due("count(5)", 0);
        });
    }

    /** Acts and undoings by turns, as often as the ring of what is kept goes round, against a plain list. */
    private static void undoRing() {
        Edge.test(6, "20 at most are kept, of more the oldest is forgotten; each can be undone, the latest first", () -> {
            Run run = Run.of(ONE_LEG);
            int[] kept = new int[20];
            int acts = 0;
            int value = 10;
            int[] turns = {23, -7, 5, -18, 3, 20, -20, 21, -1, 1, -20, 9};
            for (int turn : turns) {
                for (int i = 0; i < turn; i++) {
                    if (acts == 20) {
                        System.arraycopy(kept, 1, kept, 0, 19);
                        acts--;
                    }
                    kept[acts++] = value;
                    int next = (value * 7 + 3) % 61;
                    run.due("ship(1, " + next + ")", value);
                    value = next;
                }
                for (int i = 0; i < -turn; i++) {
                    if (acts == 0) {
                        run.due("undo()", STATE);
                        continue;
                    }
                    value = kept[--acts];
                    run.due("undo()", acts).due("track(0, 0, 0)", value);
                }
                run.due("count(5)", acts);
            }
        });
    }

    private static void undoEachAct() {
        String words = "X, Y, A, B of a THING, DRAUGHT, where she lies, the harbour, a HEIGHT, a COURSE, an UNTIL is told anew (as it was, too);"
            + " a THING is of another SORT; a LEG is put in, taken out.";
        for (String act : new String[] {"measure(0, 0, 9)", "measure(1, 1, 9)", "measure(2, 2, 9)", "measure(0, 3, 9)", "measure(0, 0, 30)",
            "become(0, 6)", "become(2, 1)", "ship(0, 9)", "ship(1, 9)", "ship(2, 9)", "ship(3, 9)", "ship(4, 9)", "ship(4, 40)",
            "tide(0, 9)",
            "tide(1, 9)", "steer(0, 9)", "steer(2, 9)", "until(0, 2, 3, 4)", "until(1, 0, 9, 0)", "until(2, 4, 3, 0)", "add(0, 9, 2, 3, 4)",
            "add(3, 9, 0, 9, 0)", "add(1, 9, 0, 9, 0)", "cut(0)", "cut(1)", "cut(2)"}) {
            Edge.test(6, words, () -> {
                Run done = Run.of(SHEET);
                done.ask(act);
                done.due("count(5)", 1).due("undo()", 0);
                Witness.same(done, Run.of(SHEET));
            });
        }
    }

    private static final String[] MEASURES = {"X (which = 0)", "Y (1)", "A (2)", "B (3)"};
    private static final int[] MEASURES_MOST = {60, 60, 15, 20};

    // 7
    private static void measure() {
        int[] was = {18, 14, 2, 9};
        for (int i = 0; i < 4; i++) {
            int which = i;
            int most = MEASURES_MOST[i];
            Edge.test(7, MEASURES[i], () -> {
                Run run = Run.of(SHEET);
                run.due("measure(2, " + which + ", 0)", was[which]).due("thing(2, " + (1 + which) + ")", 0);
                run.due("measure(2, " + which + ", " + most + ")", 0).due("thing(2, " + (1 + which) + ")", most);
                run.dueAll(BAD, "measure(2, " + which + ", " + (most + 1) + ")", "measure(2, " + which + ", -1)",
                    "measure(2, " + which + ", " + MOST + ")", "measure(2, " + which + ", " + LEAST + ")");
                run.due("thing(2, " + (1 + which) + ")", most).due("count(5)", 2);
                for (int other = 0; other < 4; other++) {
                    run.due("thing(2, " + (1 + other) + ")", other == which ? most : was[other]);
                }
                run.due("thing(2, 0)", 4).dueRow("thing(0, *)", 1, 30, 45, 1, 2).dueRow("thing(1, *)", 3, 5, 6, 0, 0);
            });
        }
        Edge.test(7, "X (which = 0), Y (1), A (2), B (3) of a THING is v: what it was. BAD.", () -> Run.of(SHEET).dueAll(BAD,
            "measure(-1, 0, 1)", "measure(3, 0, 1)", "measure(8, 0, 1)", "measure(0, -1, 1)", "measure(0, 4, 1)", "measure(" + MOST
            + ", 0, 1)",
            "measure(" + LEAST + ", 0, 1)", "measure(0, " + MOST + ", 1)", "measure(0, " + LEAST + ", 1)").due("count(5)", 0));
        Edge.test(7, "THINGS 0 .. 7", () -> Run.of("h0,0,0;t0;z0,0;" + "b1,1,1,1;".repeat(8) + "g0m1;").due("measure(7, 0, 9)", 1)
            .due("thing(7, 1)", 9).due("thing(6, 1)", 1).due("measure(8, 0, 9)", BAD));
    }

    // 8
    private static void become() {
        for (int i = 1; i <= 6; i++) {
            int sort = i;
            Edge.test(8, "A THING is of another SORT (1 to 6): what it was.", () -> {
                int other = sort % 6 + 1;
                Run.of(SHEET).due("become(0, " + sort + ")", sort == 1 ? STATE : 1).due("thing(0, 0)", sort)
                .due("become(0, " + other + ")", sort)
                    .dueRow("thing(0, *)", other, 30, 45, 1, 2).due("count(1)", other <= 3 ? 2 : 1).due("count(2)", other <= 3 ? 1 : 2)
                    .due("count(0)", 3).due("thing(1, 0)", 3);
            });
            Edge.test(8, "STATE: it is that", () -> Run.of("h0,0,0;t0;z0,0;" + "blusrk".charAt(sort - 1) + "1,1,1,1;g0m1;")
                .due("become(0, " + sort + ")", STATE).due("count(5)", 0).due("thing(0, 0)", sort));
        }
        Edge.test(8, "(1 to 6): what it was. BAD; STATE: it is that.", () -> Run.of(SHEET).dueAll(BAD, "become(0, 0)", "become(0, 7)",
            "become(0, -1)", "become(0, " + MOST + ")", "become(0, " + LEAST + ")", "become(-1, 1)", "become(3, 1)", "become(8, 1)",
            "become(" + MOST + ", 1)", "become(" + LEAST + ", 1)").due("count(5)", 0));
    }

    // 9
    private static void ship() {
        int[] was = {3, 10, 12, 30, 40};
        String[] words = {"DRAUGHT (which = 0; 0 to 20)", "X (1), Y (2) where she lies", "X (1), Y (2) where she lies",
            "X (3), Y (4) of the harbour (0 to 60) is v", "X (3), Y (4) of the harbour (0 to 60) is v"};
        for (int i = 0; i < 5; i++) {
            int which = i;
            int most = i == 0 ? 20 : 60;
            Edge.test(9, words[i], () -> {
                Run run = Run.of(SHEET).due("ship(" + which + ", 0)", was[which]).due("ship(" + which + ", " + most + ")", 0)
                    .dueAll(BAD, "ship(" + which + ", -1)", "ship(" + which + ", " + (most + 1) + ")", "ship(" + which + ", " + MOST + ")",
                        "ship(" + which + ", " + LEAST + ")").due("ship(" + which + ", 1)", most).due("count(5)", 3);
                for (int other = 0; other < 5; other++) {
                    run.due("ship(" + other + ", 2)", other == which ? 1 : was[other]);
                }
            });
        }
        Edge.test(9, "is v: what it was. BAD; STATE: no SHEET (ahead of BAD)", () -> Run.of(SHEET).dueAll(BAD, "ship(-1, 0)", "ship(5, 0)",
            "ship(" + MOST + ", 0)", "ship(" + LEAST + ", 0)").due("count(5)", 0));
        Edge.test(9, "X (1), Y (2) where she lies", () -> Run.of(SHEET).due("ship(1, 60)", 10).due("ship(2, 0)", 12)
            .due("track(0, 0, 0)", 60)
            .due("track(0, 0, 1)", 0));
        Edge.test(9, "STATE: no SHEET (ahead of BAD)", () -> Run.fresh().dueAll(STATE, "ship(0, 0)", "ship(5, 0)", "ship(-1, 0)",
            "ship(0, 21)",
            "ship(1, 61)", "ship(" + LEAST + ", " + MOST + ")"));
    }

    // 10
    private static void tide() {
        Edge.test(10, "HEIGHT k is v (0 to 20): what it was.", () -> Run.of(SHEET).due("tide(0, 0)", 8).due("height(0)", 0)
            .due("tide(0, 20)", 0)
            .due("height(0)", 20).dueAll(BAD, "tide(0, -1)", "tide(0, 21)", "tide(0, " + MOST + ")", "tide(0, " + LEAST + ")")
            .due("height(0)", 20)
            .due("height(10)", 20).due("count(5)", 2));
        Edge.test(10, "BAD: there is no such HEIGHT, too.", () -> Run.of(SHEET).due("tide(1, 5)", 20)
            .dueAll(BAD, "tide(2, 5)", "tide(-1, 5)",
            "tide(6, 5)", "tide(" + MOST + ", 5)", "tide(" + LEAST + ", 5)").due("count(4)", 2).due("height(20)", 8).due("count(5)", 1));
        Edge.test(10, "BAD: there is no such HEIGHT, too.", () -> Run.of(SIX_HEIGHTS).due("tide(5, 20)", 6).due("height(50)", 20)
            .due("height(40)", 5).due("tide(6, 20)", BAD).due("height(60)", 1));
        Edge.test(10, "BAD: there is no such HEIGHT, too.", () -> Run.of(ONE_LEG).due("tide(0, 9)", 8).due("tide(1, 9)", BAD)
            .due("height(9999)", 9));
        Edge.test(10, "BAD: there is no such HEIGHT, too.", () -> Run.of(SIX_HEIGHTS).told(SHEET).due("tide(2, 5)", BAD)
            .due("tide(1, 5)", 20));
    }

    // 11
    private static void steer() {
        Edge.test(11, "The COURSE of a LEG is another: what it was. BAD.", () -> Run.of(SHEET).due("steer(0, 0)", 2).due("steer(0, 15)", 0)
            .due("leg(0, 0)", 15).dueAll(BAD, "steer(0, -1)", "steer(0, 16)", "steer(0, " + MOST + ")", "steer(0, " + LEAST + ")")
            .dueRow("leg(0, *)", 15, 0, 4, NONE).dueRow("leg(1, *)", 4, 2, 0, 1).due("count(5)", 2));
        Edge.test(11, "The COURSE of a LEG is another: what it was. BAD.", () -> Run.of(SHEET).due("steer(2, 7)", 6)
            .dueAll(BAD, "steer(3, 7)",
            "steer(-1, 7)", "steer(6, 7)", "steer(" + MOST + ", 7)", "steer(" + LEAST + ", 7)").dueRow("leg(2, *)", 7, 4, 3, NONE)
            .due("count(5)", 1));
        Edge.test(11, "The COURSE of a LEG is another", () -> Run.of(SIX_LEGS).due("steer(5, 9)", 5).due("steer(6, 9)", BAD)
            .due("leg(5, 0)", 9)
            .due("leg(4, 0)", 4));
    }

    // 12
    private static void until() {
        String words = "The UNTIL of a LEG is of a sort (0 to 4), with a (N or T, as told)";
        int[][] ranges = {{1, 60}, {0, 7}, {0, 7}, {0, 7}, {0, 60}};
        for (int i = 0; i <= 4; i++) {
            int sort = i;
            int least = ranges[i][0];
            int most = ranges[i][1];
            String of = "until(2, " + sort + ", ";
            Edge.test(12, words, () -> Run.of(SHEET).due(of + least + ", 3)", 4).dueRow("leg(2, *)", 6, sort, least, sort == 2 ? 3 : NONE)
                .due(of + most + ", 4)", sort).dueRow("leg(2, *)", 6, sort, most, sort == 2 ? 4 : NONE)
                .dueAll(BAD, of + (least - 1) + ", 5)",
                    of + (most + 1) + ", 5)", of + MOST + ", 5)", of + LEAST + ", 5)")
                    .dueRow("leg(2, *)", 6, sort, most, sort == 2 ? 4 : NONE)
                .due("count(5)", 2).dueRow("leg(1, *)", 4, 2, 0, 1));
        }
        Edge.test(12, "of a sort (0 to 4)", () -> Run.of(SHEET).dueAll(BAD, "until(0, -1, 1, 0)", "until(0, 5, 1, 0)", "until(0, " + MOST
            + ", 1, 0)",
            "until(0, " + LEAST + ", 1, 0)", "until(-1, 0, 1, 0)", "until(3, 0, 1, 0)", "until(6, 0, 1, 0)", "until(" + MOST + ", 0, 1, 0)",
            "until(" + LEAST + ", 0, 1, 0)").dueRow("leg(0, *)", 2, 0, 4, NONE).due("count(5)", 0));
        Edge.test(12, "by i with b (U; else b is not asked)", () -> Run.of(SHEET).due("until(0, 2, 5, 0)", 0).due("leg(0, 3)", 0)
            .due("until(0, 2, 5, 7)", 2).due("leg(0, 3)", 7).dueAll(BAD, "until(0, 2, 5, -1)", "until(0, 2, 5, 8)", "until(0, 2, 5, "
            + MOST + ")",
                "until(0, 2, 5, " + LEAST + ")").dueRow("leg(0, *)", 2, 2, 5, 7));
        Edge.test(12, "by i with b (U; else b is not asked)", () -> Run.of(SHEET).due("until(1, 0, 9, -1)", 2)
            .dueRow("leg(1, *)", 4, 0, 9, NONE)
            .due("until(1, 1, 7, 8)", 0).dueRow("leg(1, *)", 4, 1, 7, NONE).due("until(1, 3, 0, " + MOST + ")", 1)
            .dueRow("leg(1, *)", 4, 3, 0, NONE)
            .due("until(1, 4, 0, " + LEAST + ")", 3).dueRow("leg(1, *)", 4, 4, 0, NONE));
        Edge.test(12, "T, U may be THINGS that there are not.", () -> Run.of(ONE_LEG).due("until(0, 1, 7, 0)", 0)
            .due("until(0, 2, 0, 7)", 1)
            .due("until(0, 3, 0, 0)", 2).due("leg(0, 1)", 3));
        Edge.test(12, "The UNTIL of a LEG", () -> Run.of(SIX_LEGS).due("until(5, 4, 9, 0)", 0).dueRow("leg(5, *)", 5, 4, 9, NONE)
            .due("until(6, 4, 9, 0)", BAD));
    }

    // 13
    private static void add() {
        String place = "comes in at a place (0 to how many there are): how many there are then.";
        Edge.test(13, place, () -> Run.of(SHEET).due("add(0, 9, 0, 7, 0)", 4).dueRow("leg(0, *)", 9, 0, 7, NONE)
            .dueRow("leg(1, *)", 2, 0, 4, NONE)
            .dueRow("leg(2, *)", 4, 2, 0, 1).dueRow("leg(3, *)", 6, 4, 3, NONE).due("leg(4, 0)", BAD).due("count(3)", 4)
            .due("count(5)", 1));
        Edge.test(13, place, () -> Run.of(SHEET).due("add(2, 9, 2, 7, 6)", 4).dueRow("leg(0, *)", 2, 0, 4, NONE)
            .dueRow("leg(1, *)", 4, 2, 0, 1)
            .dueRow("leg(2, *)", 9, 2, 7, 6).dueRow("leg(3, *)", 6, 4, 3, NONE));
        Edge.test(13, place, () -> Run.of(SHEET).due("add(3, 9, 4, 0, 0)", 4).dueRow("leg(2, *)", 6, 4, 3, NONE)
            .dueRow("leg(3, *)", 9, 4, 0, NONE));
        Edge.test(13, place, () -> Run.of(SHEET).dueAll(BAD, "add(4, 9, 0, 7, 0)", "add(-1, 9, 0, 7, 0)", "add(" + MOST + ", 9, 0, 7, 0)",
            "add(" + LEAST + ", 9, 0, 7, 0)").due("count(3)", 3).due("count(5)", 0));
        String as = "A LEG (as steer(), until() tell one)";
        Edge.test(13, as, () -> Run.of(ONE_LEG).due("add(0, 0, 0, 1, 0)", 2).due("add(0, 15, 0, 60, 0)", 3)
            .dueRow("leg(0, *)", 15, 0, 60, NONE)
            .dueRow("leg(1, *)", 0, 0, 1, NONE).dueAll(BAD, "add(0, -1, 0, 1, 0)", "add(0, 16, 0, 1, 0)", "add(0, 0, -1, 1, 0)",
            "add(0, 0, 5, 1, 0)",
                "add(0, 0, 0, 0, 0)", "add(0, 0, 0, 61, 0)").due("count(3)", 3).due("count(5)", 2));
        Edge.test(13, as, () -> Run.of(ONE_LEG).due("add(1, 0, 1, 0, -1)", 2).due("add(1, 0, 1, 7, 8)", 3)
            .dueRow("leg(1, *)", 0, 1, 7, NONE)
            .dueAll(BAD, "add(1, 0, 1, 8, 0)", "add(1, 0, 1, -1, 0)", "add(1, 0, 3, 8, 0)", "add(1, 0, 3, -1, 0)")
            .due("add(1, 0, 3, 7, " + MOST + ")", 4)
            .due("add(1, 0, 3, 0, " + LEAST + ")", 5).due("leg(1, 3)", NONE).due("count(5)", 4));
        Edge.test(13, as, () -> Run.of(ONE_LEG).due("add(1, 0, 2, 0, 7)", 2).due("add(1, 0, 2, 7, 0)", 3).dueRow("leg(1, *)", 0, 2, 7, 0)
            .dueRow("leg(2, *)", 0, 2, 0, 7).dueAll(BAD, "add(1, 0, 2, 8, 0)", "add(1, 0, 2, -1, 0)", "add(1, 0, 2, 0, 8)",
            "add(1, 0, 2, 0, -1)"));
        Edge.test(13, as, () -> Run.of(ONE_LEG).due("add(1, 0, 4, 0, 99)", 2).due("add(1, 0, 4, 60, 0)", 3)
            .dueRow("leg(1, *)", 0, 4, 60, NONE)
            .dueAll(BAD, "add(1, 0, 4, 61, 0)", "add(1, 0, 4, -1, 0)", "add(1, 0, " + MOST + ", 1, 0)", "add(1, " + LEAST + ", 4, 1, 0)"));
        Edge.test(13, "FULL: 6", () -> Run.of(SIX_LEGS).due("cut(5)", 5).due("add(5, 9, 0, 9, 0)", 6).dueAll(FULL, "add(0, 0, 0, 1, 0)",
            "add(3, 0, 0, 1, 0)", "add(6, 15, 2, 7, 7)").due("count(3)", 6).dueRow("leg(5, *)", 9, 0, 9, NONE).due("leg(0, 0)", 0)
            .due("count(5)", 2));
        Edge.test(13, "FULL: 6", () -> {
            for (int at = 0; at <= 5; at++) {
                Run run = Run.of("h3,10,12;t8,9;z30,40;b30,45,1,2;s18,14,2,9;g0m1;g1m2;g2m3;g3m4;g4m5;")
                    .due("add(" + at + ", 15, 2, 7, 6)", 6)
                    .dueRow("count(*)", 2, 1, 1, 6, 2, 1).dueRow("thing(0, *)", 1, 30, 45, 1, 2).dueRow("thing(1, *)", 4, 18, 14, 2, 9)
                    .due("height(10)", 9);
                for (int leg = 0; leg < 6; leg++) {
                    int was = leg < at ? leg : leg - 1;
                    if (leg == at) {
                        run.dueRow("leg(" + leg + ", *)", 15, 2, 7, 6);
                    } else {
                        run.dueRow("leg(" + leg + ", *)", was, 0, was + 1, NONE);
                    }
                }
            }
        });
        Edge.test(13, "BAD; STATE: no SHEET (ahead of BAD); FULL: 6", () -> Run.of(SIX_LEGS)
            .dueAll(BAD, "add(7, 0, 0, 1, 0)", "add(-1, 0, 0, 1, 0)",
            "add(0, 16, 0, 1, 0)", "add(0, 0, 5, 1, 0)", "add(0, 0, 0, 61, 0)", "add(0, 0, 2, 0, 8)").due("count(3)", 6));
        Edge.test(13, "BAD; STATE: no SHEET (ahead of BAD); FULL: 6", () -> Run.fresh()
            .dueAll(STATE, "add(0, 0, 0, 1, 0)", "add(1, 0, 0, 1, 0)",
            "add(-1, 0, 0, 1, 0)", "add(0, 16, 0, 1, 0)", "add(0, 0, 5, 1, 0)", "add(0, 0, 0, 0, 0)").due("count(3)", 0));
    }

    // 14
    private static void cut() {
        String words = "A LEG is taken out: how many there are then.";
        Edge.test(14, words, () -> Run.of(SHEET).due("cut(0)", 2).dueRow("leg(0, *)", 4, 2, 0, 1).dueRow("leg(1, *)", 6, 4, 3, NONE)
            .due("leg(2, 0)", BAD)
            .due("count(3)", 2).due("count(5)", 1));
        Edge.test(14, words, () -> Run.of(SHEET).due("cut(1)", 2).dueRow("leg(0, *)", 2, 0, 4, NONE).dueRow("leg(1, *)", 6, 4, 3, NONE));
        Edge.test(14, words, () -> Run.of(SHEET).due("cut(2)", 2).dueRow("leg(0, *)", 2, 0, 4, NONE).dueRow("leg(1, *)", 4, 2, 0, 1));
        Edge.test(14, words, () -> Run.of(SIX_LEGS).due("cut(0)", 5).dueRow("leg(4, *)", 5, 0, 6, NONE).due("cut(4)", 4)
            .dueRow("leg(3, *)", 4, 0, 5, NONE));
        Edge.test(14, words, () -> {
            for (int cut = 0; cut < 6; cut++) {
                Run run = Run.of("h3,10,12;t8,9;z30,40;b30,45,1,2;g0m1;g1m2;g2m3;g3m4;g4m5;g5m6;").due("cut(" + cut + ")", 5)
                    .dueRow("count(*)", 1, 1, 0, 5, 2, 1);
                for (int leg = 0; leg < 5; leg++) {
                    int was = leg < cut ? leg : leg + 1;
                    run.dueRow("leg(" + leg + ", *)", was, 0, was + 1, NONE);
                }
                run.due("leg(5, 0)", BAD);
            }
        });
        Edge.test(14, "BAD; STATE: it is the only one", () -> Run.of(SHEET).dueAll(BAD, "cut(-1)", "cut(3)", "cut(6)", "cut(" + MOST + ")",
            "cut(" + LEAST + ")")
            .due("count(3)", 3).due("count(5)", 0));
        Edge.test(14, "STATE: it is the only one", () -> Run.of(ONE_LEG).due("cut(0)", STATE).due("count(3)", 1)
            .dueRow("leg(0, *)", 2, 0, 4, NONE)
            .due("count(5)", 0).dueAll(BAD, "cut(1)", "cut(-1)"));
        Edge.test(14, "STATE: it is the only one", () -> Run.of(SHEET).due("cut(0)", 2).due("cut(0)", 1).due("cut(0)", STATE)
            .due("add(1, 1, 0, 1, 0)", 2)
            .due("cut(0)", 1).due("leg(0, 0)", 1));
    }

    // 15
    private static void thing() {
        Edge.test(15, "Of a THING: 0 its SORT, 1 X, 2 Y, 3 A, 4 B. BAD.", () -> Run.of(SHEET).dueRow("thing(0, *)", 1, 30, 45, 1, 2)
            .dueRow("thing(2, *)", 4, 18, 14, 2, 9).dueAll(BAD, "thing(0, 5)", "thing(0, -1)", "thing(0, " + MOST + ")", "thing(0, "
            + LEAST + ")",
                "thing(-1, 0)", "thing(3, 0)", "thing(8, 0)", "thing(" + MOST + ", 0)", "thing(" + LEAST + ", 0)"));
        Edge.test(15, "THINGS 0 .. 7", () -> Run.of("h0,0,0;t0;z0,0;" + "b1,1,1,1;".repeat(7) + "k2,3,4,5;g0m1;")
            .dueRow("thing(7, *)", 6, 2, 3, 4, 5)
            .dueAll(BAD, "thing(8, 0)", "thing(7, 5)"));
        Edge.test(15, "there is no such thing", () -> Run.of(ONE_LEG).dueAll(BAD, "thing(0, 0)", "thing(0, 4)"));
    }

    // 16
    private static void leg() {
        Edge.test(16, "Of a LEG: 0 its COURSE, 1 the sort of its UNTIL, 2 N or T, 3 U (NONE: it has none). BAD.", () -> Run.of(SHEET)
            .dueRow("leg(0, *)", 2, 0, 4, NONE).dueRow("leg(1, *)", 4, 2, 0, 1).dueRow("leg(2, *)", 6, 4, 3, NONE)
            .dueAll(BAD, "leg(0, 4)", "leg(0, -1)",
                "leg(0, " + MOST + ")", "leg(0, " + LEAST + ")", "leg(-1, 0)", "leg(3, 0)", "leg(6, 0)", "leg(" + MOST + ", 0)", "leg("
                + LEAST + ", 0)"));
        Edge.test(16, "3 U (NONE: it has none)", () -> Run.of("h0,0,0;t0;z0,0;g0m1;g0a2;g0i3,0;g0e5;g0d6;").due("leg(0, 3)", NONE)
            .due("leg(1, 3)", NONE)
            .due("leg(2, 3)", 0).due("leg(3, 3)", NONE).due("leg(4, 3)", NONE).due("leg(1, 2)", 2).due("leg(3, 1)", 3).due("leg(4, 1)", 4));
        Edge.test(16, "LEGS 0 .. 5", () -> Run.of(SIX_LEGS).dueRow("leg(5, *)", 5, 0, 6, NONE).due("leg(6, 0)", BAD).due("leg(5, 4)", BAD));
    }

    // 34
    private static void image() {
        Edge.test(34, "An IMAGE (0, 1) is kept of the SHEET: 1.", () -> Run.of(SHEET).due("image(0)", 1).due("image(1)", 1)
            .dueAll(BAD, "image(-1)", "image(2)",
            "image(" + MOST + ")", "image(" + LEAST + ")"));
        Edge.test(34, "BAD; STATE: no SHEET.", () -> Run.fresh().dueAll(STATE, "image(0)", "image(1)").dueAll(BAD, "image(-1)", "image(2)",
            "image(" + MOST + ")").dueAll(STATE, "restore(0)", "restore(1)"));
        Edge.test(34, "An IMAGE (0, 1) is kept of the SHEET: 1.", () -> Run.of(SHEET).due("image(0)", 1).due("steer(0, 9)", 2)
            .due("image(1)", 1)
            .due("steer(0, 11)", 9).due("restore(0)", 1).due("leg(0, 0)", 2).due("restore(1)", 1).due("leg(0, 0)", 9).due("restore(0)", 1)
            .due("leg(0, 0)", 2));
        Edge.test(34, "An IMAGE (0, 1) is kept of the SHEET: 1.", () -> Run.of(SHEET).due("image(0)", 1).due("cut(0)", 2).due("image(0)", 1)
            .due("cut(0)", 1)
            .due("restore(0)", 1).due("count(3)", 2).due("leg(0, 0)", 4));
        Edge.test(34, "An IMAGE (0, 1) is kept of the SHEET", () -> Run.of(SHEET).due("steer(0, 9)", 2).due("image(0)", 1)
            .due("count(5)", 1).due("undo()", 0)
            .due("leg(0, 0)", 2).due("restore(0)", 1).due("leg(0, 0)", 9));
    }

    // 35
    private static void restore() {
        Edge.test(35, "BAD; STATE: none was kept.", () -> Run.fresh().dueAll(BAD, "restore(-1)", "restore(2)", "restore(" + MOST + ")",
            "restore(" + LEAST + ")")
            .dueAll(STATE, "restore(0)", "restore(1)"));
        Edge.test(35, "BAD; STATE: none was kept.", () -> Run.of(SHEET).due("image(1)", 1).due("restore(0)", STATE).due("restore(1)", 1)
            .due("restore(0)", STATE)
            .dueAll(BAD, "restore(-1)", "restore(2)"));
        Edge.test(35, "BAD; STATE: none was kept.", () -> Run.of(SHEET).due("image(0)", 1).due("restore(1)", STATE).due("restore(0)", 1));
        Edge.test(35, "The SHEET is as an IMAGE kept it", () -> {
            Run changed = Run.of(SHEET).due("image(0)", 1).due("image(1)", 1);
            for (String act : new String[] {"measure(0, 0, 9)", "measure(0, 1, 9)", "measure(0, 2, 9)", "measure(0, 3, 9)", "become(1, 6)",
                "ship(0, 9)",
                "ship(1, 9)", "ship(2, 9)", "ship(3, 9)", "ship(4, 9)", "tide(0, 9)", "tide(1, 9)", "steer(0, 9)", "until(1, 0, 9, 0)",
                "cut(2)"}) {
                changed.ask(act);
            }
            changed.due("count(5)", 15).due("restore(0)", 1);
            Witness.same(changed, Run.of(SHEET).due("image(0)", 1).due("image(1)", 1));
        });
        Edge.test(35, "The SHEET is as an IMAGE kept it", () -> Run.of(SHEET).due("image(0)", 1).told(SIX_HEIGHTS).due("image(1)", 1)
            .due("restore(0)", 1)
            .dueRow("count(*)", 3, 2, 1, 3, 2, 0, 0).due("tide(2, 0)", BAD).due("restore(1)", 1).dueRow("count(*)", 0, 0, 0, 1, 6, 0, 0)
            .due("thing(0, 0)", BAD)
            .due("leg(1, 0)", BAD).due("tide(5, 0)", 6));
        Edge.test(35, "(no ACT can be undone then)", () -> Run.of(SHEET).due("image(0)", 1).due("steer(0, 9)", 2).due("steer(0, 8)", 9)
            .due("count(5)", 2)
            .due("restore(0)", 1).due("count(5)", 0).due("undo()", STATE).due("leg(0, 0)", 2).due("steer(0, 7)", 2).due("undo()", 0)
            .due("leg(0, 0)", 2)
            .due("undo()", STATE));
        Edge.test(35, "(no ACT can be undone then)", () -> {
            Run run = Run.of(ONE_LEG).due("image(0)", 1);
            for (int i = 1; i <= 23; i++) {
                run.ask("ship(1, " + i + ")");
            }
            run.due("restore(0)", 1).due("undo()", STATE).due("ship(1, 30)", 10).due("ship(1, 31)", 30).due("undo()", 1).due("undo()", 0)
                .due("undo()", STATE).due("track(0, 0, 0)", 10);
        });
        Edge.test(35, "The SHEET is as an IMAGE kept it", () -> Run.of(SHEET).due("image(0)", 1).due("restore(0)", 1).due("steer(0, 9)", 2)
            .due("restore(0)", 1)
            .due("leg(0, 0)", 2).dueSheet("h21", -1000101).tell("sw").due("restore(0)", 1).due("count(6)", 2).due("fault()", 2)
            .due("course()", 10));
    }

    // 36
    private static void count() {
        Edge.test(36, "0 THINGS, 1 MARKS, 2 SHOALS, 3 LEGS, 4 HEIGHTS, 5 ACTS that can be undone, 6 bytes on the tape. BAD.", () ->
            Run.of("h0,0,0;t1,2,3,4,5;z0,0;b0,0,0,0;l0,0,0,0;u0,0,0,0;s0,0,0,0;r0,0,0,0;k0,0,0,0;k0,0,0,0;g0m1;g0m1;").due("ship(0, 0)", 0)
            .tell("abcd")
                .dueRow("count(*)", 7, 3, 4, 2, 5, 1, 4).dueAll(BAD, "count(-1)", "count(7)", "count(" + MOST + ")", "count(" + LEAST
                + ")"));
        Edge.test(36, "5 ACTS that can be undone", () -> Run.of(SHEET).due("count(5)", 0).due("ship(0, 0)", 3).due("count(5)", 1)
            .due("undo()", 0).due("count(5)", 0));
        Edge.test(36, "6 bytes on the tape", () -> Run.fresh().due("count(6)", 0).due("feed(0)", 1).due("count(6)", 1).due("course()", NONE)
            .due("count(6)", 0)
            .tell("x".repeat(160)).due("count(6)", 160).due("sheet()", -1000100).due("count(6)", 0));
        Edge.test(36, "How many", () -> Run.fresh().dueRow("count(*)", 0, 0, 0, 0, 0, 0, 0).dueAll(BAD, "count(-1)", "count(7)"));
        Edge.test(36, "1 MARKS, 2 SHOALS", () -> Run.of("h0,0,0;t0;z0,0;" + "b1,1,1,1;".repeat(8) + "g0m1;").dueRow("count(*)", 8, 8, 0)
            .due("become(7, 4)", 1)
            .dueRow("count(*)", 8, 7, 1).due("become(0, 6)", 1).dueRow("count(*)", 8, 6, 2).due("become(1, 3)", 1)
            .dueRow("count(*)", 8, 6, 2));
    }
}
