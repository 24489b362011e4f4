/** The edges of the document's part 2: heights, depths, marks, sectors, what is seen, lines; promises 17 to 22. */
final class ChartEdges {
    private static final int NONE = Run.NONE, BAD = Run.BAD, STATE = Run.STATE;
    private static final int LEAST = Run.LEAST, MOST = Run.MOST;
    private static final int[] EAST = {0, 1, 1, 2, 1, 2, 1, 1, 0, -1, -1, -2, -1, -2, -1, -1};
    private static final int[] NORTH = {1, 2, 1, 1, 0, -1, -1, -2, -1, -2, -1, -1, 0, 1, 1, 2};

    private ChartEdges() {
    }

    static void all() {
        heights();
        shoalsReach();
        depths();
        waterRange();
        markPlaces();
        markRefusals();
        seenFar();
        sectorEdges();
        sectorsAllRound();
        seenRefusals();
        lineSides();
        lineRefusals();
        linesOfShoals();
        linesOfBanks();
        linesRefusals();
    }

    /** One sheet with these heights and things. */
    private static Run chart(String heights, String things) {
        return Run.of("h0,30,30;t" + heights + ";z0,0;" + things + "g0m1;");
    }

    // 17
    private static void heights() {
        Edge.test(17, "HEIGHTS follow each other ten minutes apart, behind the last one the first", () -> chart("0,4,8,12,16,20", "")
            .due("height(0)", 0).due("height(9)", 3).due("height(10)", 4).due("height(19)", 7).due("height(20)", 8).due("height(49)", 19)
            .due("height(50)", 20).due("height(51)", 18).due("height(55)", 10).due("height(59)", 2).due("height(60)", 0)
            .due("height(61)", 0)
            .due("height(69)", 3).due("height(70)", 4).due("height(119)", 2).due("height(120)", 0).due("height(9990)", 12)
            .due("height(9999)", 15));
        Edge.test(17, "behind the last one the first", () -> chart("10,20", "").due("height(0)", 10).due("height(1)", 11)
            .due("height(9)", 19)
            .due("height(10)", 20).due("height(11)", 19).due("height(19)", 11).due("height(20)", 10).due("height(9999)", 11));
        Edge.test(17, "behind the last one the first", () -> chart("7", "").dueAll(7, "height(0)", "height(1)", "height(9)", "height(10)",
            "height(9999)"));
        Edge.test(17, "that by 10 (cut towards 0)", () -> chart("3,0", "").due("height(1)", 3).due("height(3)", 3).due("height(4)", 2)
            .due("height(6)", 2)
            .due("height(7)", 1).due("height(9)", 1).due("height(10)", 0).due("height(11)", 0).due("height(13)", 0).due("height(14)", 1)
            .due("height(16)", 1).due("height(17)", 2).due("height(19)", 2).due("height(20)", 3));
        Edge.test(17, "that by 10 (cut towards 0)", () -> chart("20,0,20", "").due("height(1)", 18).due("height(9)", 2).due("height(11)", 2)
            .due("height(19)", 18).dueAll(20, "height(20)", "height(25)", "height(29)", "height(30)"));
        Edge.test(17, "HEIGHT at minute m (0 to 9999). BAD; STATE: no SHEET (ahead of BAD).", () -> chart("1,2", "").due("height(0)", 1)
            .due("height(9999)", 2)
            .dueAll(BAD, "height(-1)", "height(10000)", "height(" + MOST + ")", "height(" + LEAST + ")"));
        Edge.test(17, "BAD; STATE: no SHEET (ahead of BAD)", () -> Run.fresh().dueAll(STATE, "height(0)", "height(9999)", "height(-1)",
            "height(10000)",
            "height(" + LEAST + ")"));
    }

    // 18
    private static void shoalsReach() {
        for (char sort : new char[] {'s', 'r'}) {
            String words = "the squares to the east and to the north, together, are no more than A times A";
            int depth = sort == 's' ? 7 : -7;
            Edge.test(18, words, () -> chart("0", sort + "30,30,5,7;").dueAll(depth, "water(30, 30, 0)", "water(35, 30, 0)",
                "water(25, 30, 0)",
                "water(30, 35, 0)", "water(30, 25, 0)", "water(33, 34, 0)", "water(26, 27, 0)", "water(34, 27, 0)", "water(27, 34, 0)")
                .dueAll(40, "water(36, 30, 0)", "water(24, 30, 0)", "water(30, 36, 0)", "water(30, 24, 0)", "water(35, 31, 0)",
                "water(34, 34, 0)",
                    "water(35, 35, 0)", "water(31, 35, 0)", "water(25, 29, 0)"));
            Edge.test(18, words, () -> chart("0", sort + "30,30,0,7;").due("water(30, 30, 0)", depth)
                .dueAll(40, "water(31, 30, 0)", "water(29, 30, 0)",
                "water(30, 31, 0)", "water(30, 29, 0)"));
            Edge.test(18, words, () -> chart("0", sort + "30,30,15,7;").dueAll(depth, "water(45, 30, 0)", "water(15, 30, 0)",
                "water(39, 42, 0)",
                "water(18, 21, 0)").dueAll(40, "water(46, 30, 0)", "water(40, 42, 0)", "water(41, 41, 0)", "water(30, 14, 0)"));
        }
        String words = "in a bank, if it is A or less to the east or west, and A or less to the north or south";
        Edge.test(18, words, () -> chart("0", "k30,30,5,7;").dueAll(7, "water(35, 35, 0)", "water(25, 25, 0)", "water(35, 25, 0)",
            "water(25, 35, 0)",
            "water(30, 30, 0)", "water(30, 35, 0)").dueAll(40, "water(36, 35, 0)", "water(35, 36, 0)", "water(24, 25, 0)",
            "water(25, 24, 0)",
                "water(36, 30, 0)", "water(30, 36, 0)", "water(24, 30, 0)", "water(30, 24, 0)"));
        Edge.test(18, words, () -> chart("0", "k30,30,0,7;").due("water(30, 30, 0)", 7).dueAll(40, "water(31, 30, 0)", "water(30, 29, 0)"));
        Edge.test(18, words, () -> chart("0", "k30,30,15,7;").dueAll(7, "water(45, 45, 0)", "water(15, 15, 0)")
            .dueAll(40, "water(46, 45, 0)", "water(15, 14, 0)"));
        Edge.test(18, "SHOALS are shoals, rocks, banks.", () -> chart("0", "b30,30,15,7;l30,30,15,6;u30,30,15,5;")
            .due("water(30, 30, 0)", 40)
            .due("water(30, 30, 1)", NONE));
    }

    private static void depths() {
        Edge.test(18, "of all SHOALS in which it lies the least B (of a rock 0 less B)", () -> chart("9",
            "s30,30,0,0;s31,30,0,20;r32,30,0,0;r33,30,0,20;k34,30,0,20;")
            .due("water(30, 30, 0)", 0).due("water(31, 30, 0)", 20).due("water(32, 30, 0)", 0).due("water(33, 30, 0)", -20)
            .due("water(34, 30, 0)", 20));
        Edge.test(18, "of all SHOALS in which it lies the least B (of a rock 0 less B)", () -> chart("0",
            "s30,30,9,5;k30,30,6,4;s30,30,3,6;r30,30,1,3;r30,30,0,4;")
            .due("water(39, 30, 0)", 5).due("water(36, 36, 0)", 4).due("water(33, 30, 0)", 4).due("water(31, 30, 0)", -3)
            .due("water(30, 30, 0)", -4));
        Edge.test(18, "40, if there is none", () -> chart("20", "").due("water(30, 30, 0)", 40).due("water(0, 0, 0)", 40)
            .due("water(60, 60, 0)", 40));
        Edge.test(18, "FIRST of it: the first SHOAL that has that depth there", () -> chart("0",
            "b30,30,9,0;s30,30,9,5;k30,30,6,4;s30,30,6,4;s30,30,3,4;r30,30,1,3;k30,30,0,2;r30,30,0,3;")
            .due("water(39, 30, 1)", 1).due("water(36, 36, 1)", 2).due("water(33, 30, 1)", 2).due("water(31, 30, 1)", 5)
            .due("water(30, 30, 1)", 5)
            .due("become(5, 1)", 5).due("water(30, 30, 1)", 7).due("water(31, 30, 1)", 2).due("become(2, 1)", 6).due("water(33, 30, 1)", 3)
            .due("water(36, 36, 1)", 1).due("water(37, 37, 1)", NONE));
        Edge.test(18, "FIRST of it: the first SHOAL that has that depth there", () -> chart("0",
            "s30,30,0,0;r30,30,0,0;r40,40,0,0;k40,40,0,0;")
            .due("water(30, 30, 1)", 0).due("water(40, 40, 1)", 2));
        Edge.test(18, "the FIRST SHOAL of it (1; NONE)", () -> chart("0", "s30,30,1,5;").due("water(30, 31, 1)", 0)
            .due("water(31, 31, 1)", NONE)
            .due("water(0, 0, 1)", NONE));
    }

    private static void waterRange() {
        String words = "Of a place in THE CHART: CHARTED depth (what = 0), the FIRST SHOAL of it (1; NONE). BAD; STATE: no SHEET (ahead of BAD).";
        Edge.test(18, words, () -> chart("0", "k0,60,1,1;k60,0,1,2;").due("water(0, 60, 0)", 1).due("water(60, 0, 0)", 2)
            .due("water(60, 0, 1)", 1)
            .due("water(0, 0, 1)", NONE).due("water(60, 60, 1)", NONE).dueAll(BAD, "water(-1, 0, 0)", "water(61, 0, 0)", "water(0, -1, 0)",
            "water(0, 61, 0)",
                "water(0, 0, -1)", "water(0, 0, 2)", "water(-1, 60, 1)", "water(" + MOST + ", 0, 0)", "water(0, " + LEAST + ", 0)",
                "water(0, 0, " + MOST + ")"));
        Edge.test(18, words, () -> Run.fresh().dueAll(STATE, "water(0, 0, 0)", "water(-1, 0, 0)", "water(0, 61, 0)", "water(0, 0, 2)"));
    }

    // 19
    private static void markPlaces() {
        Edge.test(19, "of a buoy X is more by HEIGHT by 4 (cut)", () -> {
            Run run = chart("0", "u60,20,3,3;");
            for (int height = 0; height <= 20; height++) {
                run.ask("tide(0, " + height + ")");
                run.due("mark(0, 0, 0)", 60 + height / 4).due("mark(0, 0, 1)", 20);
            }
        });
        Edge.test(19, "PLACE of a MARK at minute m: its own; of a buoy X is more", () -> chart("20,4", "b30,31,0,0;l32,33,0,0;u34,35,0,0;")
            .due("mark(0, 0, 0)", 30).due("mark(0, 0, 1)", 31).due("mark(1, 0, 0)", 32).due("mark(1, 0, 1)", 33).due("mark(2, 0, 0)", 39)
            .due("mark(2, 0, 1)", 35).due("mark(2, 10, 0)", 35).due("mark(2, 9, 0)", 35).due("mark(2, 8, 0)", 36).due("thing(2, 1)", 34));
        Edge.test(19, "PLACE of a MARK at minute m (0 to 9999): X (what = 0), Y (1).", () -> chart("0,20", "u34,35,0,0;")
            .due("mark(0, 0, 0)", 34)
            .due("mark(0, 9999, 0)", 34).due("mark(0, 9991, 0)", 38).due("mark(0, 9990, 0)", 39).due("mark(0, 9999, 1)", 35)
            .dueAll(BAD, "mark(0, -1, 0)", "mark(0, 10000, 0)", "mark(0, 0, -1)", "mark(0, 0, 2)", "mark(-1, 0, 0)", "mark(1, 0, 0)",
            "mark(" + MOST + ", 0, 0)",
                "mark(0, " + LEAST + ", 0)", "mark(0, 0, " + MOST + ")"));
    }

    private static void markRefusals() {
        Edge.test(19, "BAD; STATE: the THING is no MARK.", () -> chart("0", "b1,1,1,1;l1,1,1,1;u1,1,1,1;s1,1,1,1;r1,1,1,1;k1,1,1,1;")
            .dueAll(1, "mark(0, 0, 0)", "mark(1, 0, 0)", "mark(2, 0, 0)").dueAll(STATE, "mark(3, 0, 0)", "mark(4, 0, 0)",
            "mark(5, 9999, 1)")
            .dueAll(BAD, "mark(3, 10000, 0)", "mark(4, -1, 0)", "mark(5, 0, 2)", "mark(3, 0, -1)", "mark(6, 0, 0)").due("become(0, 4)", 1)
            .due("mark(0, 0, 0)", STATE).due("become(3, 1)", 4).due("mark(3, 0, 0)", 1));
        Edge.test(19, "there is no such thing", () -> Run.fresh().dueAll(BAD, "mark(0, 0, 0)", "mark(0, -1, 2)"));
    }

    // 20
    private static void seenFar() {
        Edge.test(20, "is a beacon no more than 20 far", () -> chart("20", "b30,30,0,0;")
            .dueAll(1, "seen(0, 30, 30, 0)", "seen(0, 50, 30, 0)", "seen(0, 10, 30, 0)",
            "seen(0, 30, 50, 0)", "seen(0, 30, 10, 0)", "seen(0, 42, 46, 0)", "seen(0, 14, 18, 0)")
            .dueAll(0, "seen(0, 51, 30, 0)", "seen(0, 9, 30, 0)",
                "seen(0, 30, 51, 0)", "seen(0, 30, 9, 0)", "seen(0, 50, 31, 0)", "seen(0, 43, 46, 0)", "seen(0, 45, 44, 0)"));
        Edge.test(20, "a buoy no more than 10 (from its PLACE)", () -> chart("0", "u30,30,0,0;")
            .dueAll(1, "seen(0, 40, 30, 0)", "seen(0, 20, 30, 0)",
            "seen(0, 30, 40, 0)", "seen(0, 30, 20, 0)", "seen(0, 36, 38, 0)", "seen(0, 22, 24, 0)")
            .dueAll(0, "seen(0, 41, 30, 0)", "seen(0, 19, 30, 0)",
                "seen(0, 40, 31, 0)", "seen(0, 37, 38, 0)", "seen(0, 30, 19, 0)"));
        Edge.test(20, "a buoy no more than 10 (from its PLACE)", () -> chart("20,0", "u30,30,0,0;u60,30,0,0;")
            .dueAll(1, "seen(0, 45, 30, 0)", "seen(0, 25, 30, 0)",
            "seen(0, 20, 30, 10)", "seen(0, 40, 30, 10)", "seen(1, 55, 30, 0)", "seen(1, 50, 30, 10)")
            .dueAll(0, "seen(0, 46, 30, 0)", "seen(0, 24, 30, 0)",
                "seen(0, 41, 30, 10)", "seen(1, 54, 30, 0)", "seen(1, 49, 30, 10)"));
        Edge.test(20, "a light from all places in its SECTOR", () -> chart("0", "l0,0,0,4;l60,60,8,12;")
            .dueAll(1, "seen(0, 60, 60, 0)", "seen(0, 0, 60, 0)",
            "seen(0, 60, 1, 0)", "seen(1, 0, 0, 0)", "seen(1, 60, 0, 0)", "seen(1, 0, 59, 0)")
            .dueAll(0, "seen(0, 60, 0, 0)", "seen(1, 0, 60, 0)"));
    }

    private static void sectorEdges() {
        Edge.test(20, "A's own is in it, the other isn't", () -> chart("0", "l30,30,0,4;l30,30,2,3;l30,30,14,2;l30,30,4,12;l30,30,15,14;")
            .dueAll(1, "seen(0, 30, 31, 0)", "seen(0, 30, 60, 0)", "seen(0, 59, 31, 0)", "seen(1, 31, 31, 0)", "seen(1, 33, 32, 0)",
            "seen(2, 29, 31, 0)",
                "seen(2, 30, 31, 0)", "seen(2, 31, 32, 0)", "seen(3, 31, 30, 0)", "seen(3, 30, 29, 0)", "seen(4, 29, 32, 0)",
                "seen(4, 30, 29, 0)", "seen(4, 28, 31, 0)")
            .dueAll(0, "seen(0, 31, 30, 0)", "seen(0, 60, 30, 0)", "seen(0, 29, 60, 0)", "seen(0, 30, 29, 0)", "seen(1, 32, 31, 0)",
            "seen(1, 32, 33, 0)",
                "seen(1, 29, 29, 0)", "seen(2, 31, 31, 0)", "seen(2, 28, 31, 0)", "seen(3, 29, 30, 0)", "seen(3, 30, 31, 0)",
                "seen(4, 29, 31, 0)", "seen(4, 28, 33, 0)"));
        Edge.test(20, "if both are the same, all are", () -> {
            for (int course = 0; course < 16; course++) {
                Run run = chart("0", "l30,30," + course + "," + course + ";");
                for (int c = 0; c < 16; c++) {
                    run.due("seen(0, " + (30 + EAST[c]) + ", " + (30 + NORTH[c]) + ", 0)", 1);
                }
                run.due("seen(0, 30, 30, 0)", 1);
            }
        });
        Edge.test(20, "ahead of that of the COURSE that B leaves by 16", () -> {
            for (int b = 16; b <= 20; b++) {
                Run same = chart("0", "l30,30," + (b - 16) + "," + b + ";l30,30," + (b - 15) + "," + b + ";l30,30,15," + b + ";");
                for (int c = 0; c < 16; c++) {
                    String place = (30 + 3 * EAST[c]) + ", " + (30 + 3 * NORTH[c]) + ", 0)";
                    same.due("seen(0, " + place, 1).due("seen(1, " + place, c == b - 16 ? 0 : 1)
                        .due("seen(2, " + place, c == 15 || c < b - 16 ? 1 : 0);
                }
            }
        });
        Edge.test(20, "or it is the light's own", () -> {
            for (int from = 0; from < 16; from++) {
                chart("0", "l30,30," + from + "," + (from + 1) + ";").due("seen(0, 30, 30, 0)", 1).due("seen(0, 30, 30, 9999)", 1);
            }
        });
    }

    /** How far the direction is turned with the sun from the course's, as a part of a whole turn; 0 just on it. */
    private static double turned(int course, int east, int north) {
        int cross = NORTH[course] * east - EAST[course] * north;
        int dot = EAST[course] * east + NORTH[course] * north;
        double turn = cross == 0 && dot > 0 ? 0 : Math.atan2(cross, dot) / (2 * Math.PI);
        return turn < 0 ? turn + 1 : turn;
    }

    private static void sectorsAllRound() {
        Edge.test(20, "the directions that are met, turning from that of COURSE A with the sun (north, east, south, west), ahead of that of the COURSE", () -> {
            for (int from = 0; from < 16; from++) {
                for (int b = 0; b <= 20; b++) {
                    sectorAllRound(from, b);
                }
            }
        });
    }

    private static void sectorAllRound(int from, int b) {
        Run run = chart("0", "l30,30," + from + "," + b + ";");
        int to = b % 16;
        double width = to == from ? 1 : turned(from, EAST[to], NORTH[to]);
        for (int east = -3; east <= 3; east++) {
            for (int north = -3; north <= 3; north++) {
                boolean isOnOther = to != from && turned(to, east, north) == 0;
                boolean isIn = !isOnOther && turned(from, east, north) < width;
                if (east != 0 || north != 0) {
                    run.due("seen(0, " + (30 + east) + ", " + (30 + north) + ", 0)", isIn ? 1 : 0);
                }
            }
        }
    }

    private static void seenRefusals() {
        Edge.test(20, "from a place in THE CHART at minute m (0 to 9999): 1, 0.", () -> chart("0,20", "u0,0,0,0;u60,60,0,0;")
            .dueAll(1, "seen(0, 0, 0, 0)",
            "seen(1, 60, 60, 0)", "seen(0, 0, 0, 9999)", "seen(1, 60, 60, 9999)").dueAll(0, "seen(0, 0, 60, 0)", "seen(1, 0, 60, 0)")
            .dueAll(BAD, "seen(0, -1, 0, 0)", "seen(0, 61, 0, 0)", "seen(0, 0, -1, 0)", "seen(0, 0, 61, 0)", "seen(0, 0, 0, -1)",
            "seen(0, 0, 0, 10000)",
                "seen(-1, 0, 0, 0)", "seen(2, 0, 0, 0)", "seen(" + MOST + ", 0, 0, 0)", "seen(0, " + LEAST + ", 0, 0)", "seen(0, 0, 0, "
                + MOST + ")"));
        Edge.test(20, "BAD; STATE: the THING is no MARK.", () -> chart("0", "b1,1,1,1;l1,1,1,1;u1,1,1,1;s1,1,1,1;r1,1,1,1;k1,1,1,1;")
            .dueAll(1, "seen(0, 1, 1, 0)", "seen(1, 1, 1, 0)", "seen(2, 1, 1, 0)")
            .dueAll(STATE, "seen(3, 1, 1, 0)", "seen(4, 0, 60, 9999)", "seen(5, 60, 0, 0)")
            .dueAll(BAD, "seen(3, 61, 1, 0)", "seen(4, 1, -1, 0)", "seen(5, 1, 1, 10000)", "seen(6, 1, 1, 0)"));
        Edge.test(20, "there is no such thing", () -> Run.fresh().dueAll(BAD, "seen(0, 0, 0, 0)", "seen(0, 61, 0, -1)"));
    }

    // 21
    private static void lineSides() {
        Edge.test(21, "lies left (1) or right (-1) of the line", () -> chart("0", "b0,0,0,0;b60,59,0,0;").due("line(0, 1, 60, 60)", 1)
            .due("line(0, 1, 59, 58)", -1)
            .due("line(0, 1, 1, 1)", 1).due("line(0, 1, 0, 60)", 1).due("line(0, 1, 60, 0)", -1).due("line(0, 1, 60, 59)", 0)
            .due("line(0, 1, 0, 0)", 0)
            .due("line(1, 0, 60, 60)", -1).due("line(1, 0, 59, 58)", 1));
        Edge.test(21, "on and on both ways, looking from a to b; on it (0)", () -> chart("0", "b20,20,0,0;b21,22,0,0;")
            .dueAll(0, "line(0, 1, 20, 20)",
            "line(0, 1, 21, 22)", "line(0, 1, 10, 0)", "line(0, 1, 40, 60)", "line(1, 0, 10, 0)")
            .dueAll(1, "line(0, 1, 39, 60)", "line(0, 1, 9, 0)")
            .dueAll(-1, "line(0, 1, 41, 60)", "line(0, 1, 11, 0)", "line(1, 0, 39, 60)"));
        Edge.test(21, "of the line from where THING a is (its own X, Y) to where b is", () -> chart("20",
            "u20,20,0,0;u20,30,0,0;s30,30,9,9;")
            .due("line(0, 1, 20, 60)", 0).due("line(0, 1, 19, 60)", 1).due("line(0, 1, 21, 0)", -1).due("line(0, 1, 24, 0)", -1)
            .due("line(1, 2, 0, 30)", 0)
            .due("line(1, 2, 0, 31)", 1).due("line(2, 1, 0, 31)", -1));
    }

    private static void lineRefusals() {
        Edge.test(21, "BAD: one and the same, too", () -> chart("0", "b1,1,0,0;b2,2,0,0;")
            .dueAll(BAD, "line(0, 0, 5, 5)", "line(1, 1, 5, 5)", "line(0, 2, 5, 5)",
            "line(2, 0, 5, 5)", "line(-1, 0, 5, 5)", "line(0, -1, 5, 5)", "line(0, 1, -1, 5)", "line(0, 1, 61, 5)", "line(0, 1, 5, -1)",
            "line(0, 1, 5, 61)",
            "line(" + MOST + ", 0, 5, 5)", "line(0, " + LEAST + ", 5, 5)", "line(0, 1, " + MOST + ", 5)", "line(0, 1, 5, " + LEAST + ")")
            .due("line(0, 1, 0, 0)", 0).due("line(0, 1, 60, 60)", 0));
        Edge.test(21, "STATE: a and b are at one place.", () -> chart("0", "b1,1,0,0;s1,1,3,3;b1,2,0,0;b2,1,0,0;")
            .dueAll(STATE, "line(0, 1, 5, 5)", "line(1, 0, 1, 1)")
            .dueAll(BAD, "line(0, 1, 61, 5)", "line(0, 1, 5, -1)", "line(1, 1, 5, 5)").due("line(0, 2, 1, 9)", 0)
            .due("line(0, 3, 9, 1)", 0));
        Edge.test(21, "STATE: a and b are at one place.", () -> chart("20", "u1,1,0,0;b6,1,0,0;u6,1,0,0;").due("line(0, 1, 5, 1)", 0)
            .due("line(1, 2, 5, 5)", STATE));
        Edge.test(21, "there is no such thing", () -> Run.fresh().dueAll(BAD, "line(0, 1, 5, 5)", "line(0, 0, 61, 5)"));
    }

    /** Of one shoal, told as thing 2, by the line from thing 0 to thing 1: 1 left, -1 right, 0 neither. */
    private static void side(int want, String ends, String shoal) {
        chart("0", ends + shoal).due("lines(0, 1, 0)", want == 1 ? 4 : 0).due("lines(0, 1, 1)", want == -1 ? 4 : 0)
            .due("lines(0, 1, 2)", want == 0 ? 4 : 0)
            .due("lines(1, 0, 0)", want == -1 ? 4 : 0).due("lines(1, 0, 1)", want == 1 ? 4 : 0).due("lines(1, 0, 2)", want == 0 ? 4 : 0);
    }

    // 22
    private static void linesOfShoals() {
        String level = "b10,20,0,0;b11,20,0,0;";
        String slant = "b0,0,0,0;b30,40,0,0;";
        String steep = "b0,0,0,0;b5,4,0,0;";
        for (char sort : new char[] {'s', 'r'}) {
            Edge.test(22, "what touches the line is neither", () -> {
                side(1, level, sort + "30,30,9,0;");
                side(0, level, sort + "30,30,10,0;");
                side(0, level, sort + "30,30,11,0;");
                side(-1, level, sort + "30,10,9,0;");
                side(0, level, sort + "30,10,10,0;");
                side(0, level, sort + "30,20,0,0;");
                side(1, level, sort + "0,21,0,0;");
                side(-1, level, sort + "60,19,0,0;");
                side(0, level, sort + "60,19,1,0;");
                side(1, slant, sort + "0,25,14,0;");
                side(0, slant, sort + "0,25,15,0;");
                side(-1, slant, sort + "20,0,15,0;");
                side(-1, slant, sort + "20,10,9,0;");
                side(0, slant, sort + "20,10,10,0;");
            });
            Edge.test(22, "all of a SHOAL counts, places between whole numbers, too", () -> {
                side(0, steep, sort + "1,2,1,0;");
                side(1, steep, sort + "2,3,1,0;");
                side(0, steep, sort + "4,2,1,0;");
                side(-1, steep, sort + "3,1,1,0;");
                side(1, steep, sort + "1,2,0,0;");
                side(-1, steep, sort + "4,2,0,0;");
            });
        }
        Edge.test(22, "SHOALS (bits) that lie wholly left (what = 0), wholly right (1) of that line, neither (2)", () -> chart("20",
            "s10,20,3,0;u20,20,0,0;b30,25,0,0;k30,25,4,0;r30,15,4,0;l30,15,0,0;s30,25,5,0;s30,15,4,0;").due("lines(0, 1, 0)", 8)
            .due("lines(0, 1, 1)", 16 + 128).due("lines(0, 1, 2)", 1 + 64).due("lines(1, 0, 0)", 16 + 128).due("lines(1, 0, 1)", 8)
            .due("lines(1, 0, 2)", 1 + 64));
        Edge.test(22, "of the line from where THING a is (its own X, Y) to where b is", () -> chart("20",
            "u20,20,0,0;u20,30,0,0;s22,25,1,0;k18,50,1,0;")
            .due("lines(0, 1, 0)", 8).due("lines(0, 1, 1)", 4).due("lines(0, 1, 2)", 0));
        Edge.test(22, "SHOALS (bits)", () -> chart("0", "b10,20,0,0;b20,20,0,0;l30,30,1,1;u30,10,1,1;")
            .dueAll(0, "lines(0, 1, 0)", "lines(0, 1, 1)", "lines(0, 1, 2)"));
    }

    private static void linesOfBanks() {
        String level = "b10,20,0,0;b11,20,0,0;";
        String upright = "b20,10,0,0;b20,11,0,0;";
        String even = "b0,0,0,0;b10,10,0,0;";
        String steep = "b0,0,0,0;b5,4,0,0;";
        String falling = "b0,40,0,0;b5,36,0,0;";
        Edge.test(22, "what touches the line is neither", () -> {
            side(1, level, "k30,30,9,0;");
            side(0, level, "k30,30,10,0;");
            side(-1, level, "k30,10,9,0;");
            side(0, level, "k30,10,10,0;");
            side(-1, upright, "k30,30,9,0;");
            side(0, upright, "k30,30,10,0;");
            side(1, upright, "k10,30,9,0;");
            side(0, upright, "k10,30,10,0;");
            side(0, level, "k30,20,0,0;");
            side(1, even, "k0,5,2,0;");
            side(0, even, "k0,4,2,0;");
            side(-1, even, "k5,0,2,0;");
            side(0, even, "k4,0,2,0;");
            side(0, steep, "k4,5,1,0;");
            side(1, steep, "k0,2,1,0;");
            side(0, steep, "k2,3,1,0;");
            side(0, steep, "k6,3,1,0;");
            side(-1, steep, "k5,2,1,0;");
            side(1, falling, "k5,38,1,0;");
            side(0, falling, "k1,41,1,0;");
            side(-1, falling, "k0,38,1,0;");
        });
    }

    private static void linesRefusals() {
        Edge.test(22, "BAD: one and the same, too", () -> chart("0", "b1,1,0,0;b2,2,0,0;")
            .dueAll(BAD, "lines(0, 0, 0)", "lines(1, 1, 2)", "lines(0, 2, 0)",
            "lines(2, 0, 0)", "lines(-1, 0, 0)", "lines(0, -1, 0)", "lines(0, 1, -1)", "lines(0, 1, 3)", "lines(" + MOST + ", 0, 0)",
            "lines(0, " + LEAST + ", 0)",
            "lines(0, 1, " + MOST + ")", "lines(0, 1, " + LEAST + ")").dueAll(0, "lines(0, 1, 0)", "lines(0, 1, 2)"));
        Edge.test(22, "STATE: a and b are at one place.", () -> chart("0", "b1,1,0,0;s1,1,3,3;b1,2,0,0;b2,1,0,0;")
            .dueAll(STATE, "lines(0, 1, 0)", "lines(1, 0, 2)")
            .dueAll(BAD, "lines(0, 1, 3)", "lines(0, 1, -1)", "lines(1, 1, 0)").due("lines(0, 2, 2)", 2).due("lines(0, 3, 2)", 2));
        Edge.test(22, "there is no such thing", () -> Run.fresh().dueAll(BAD, "lines(0, 1, 0)", "lines(0, 0, 3)"));
    }
}
