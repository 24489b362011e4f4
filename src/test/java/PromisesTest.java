/** For each promise of the document: ordinary inputs, the edges that it names, wrong inputs. */
public final class PromisesTest {
    private static final int NONE = SailingDirections.NONE, BAD = SailingDirections.BAD;
    private static final int STATE = SailingDirections.STATE, FULL = SailingDirections.FULL;
    private static final int LEAST = Integer.MIN_VALUE, MOST = Integer.MAX_VALUE;

    /** Two beacons, a light, a buoy, a shoal, a rock, a bank; the tide has three heights. */
    private static final String RICH = "h3,10,12;t8,20,0;z30,40;b30,45,1,2;b5,6,0,0;l20,20,4,0;u30,20,0,0;"
        + "s18,14,2,9;r40,40,3,4;k50,10,2,1;g2m4;g4a0;g6i1,2;g8e2;g10d7;";
    private static final String SMALL = "h5,30,30;t0;z30,40;g0m10;";

    public static void main(String[] args) {
        newObject();
        feed();
        sheet();
        faults();
        courseNames();
        undo();
        measure();
        become();
        ship();
        tide();
        steer();
        until();
        add();
        cut();
        thingAndLeg();
        height();
        water();
        mark();
        seen();
        sectors();
        line();
        lines();
        sail();
        track();
        whyOff();
        whyAground();
        whyOverdue();
        whyMistakenOrMissed();
        untilsAbeam();
        untilsInLine();
        untilsLight();
        untilsDepth();
        sign();
        times();
        deepest();
        courses();
        needed();
        near();
        out();
        drawn();
        images();
        imagesStay();
        count();
        Due.finish("PromisesTest");
    }

    private static void due(String call, long got, long want) {
        Due.due(call, got, want);
    }

    private static void dueAll(String call, long want, long... got) {
        for (int i = 0; i < got.length; i++) {
            due(call + " [" + i + "]", got[i], want);
        }
    }

    // 1
    private static void newObject() {
        SailingDirections x = new SailingDirections();
        for (int what = 0; what <= 6; what++) {
            due("new count(" + what + ")", x.count(what), 0);
        }
        due("new fault()", x.fault(), 0);
        due("new undo()", x.undo(), STATE);
        dueAll("new STATE", STATE, x.ship(0, 1), x.add(0, 0, 0, 1, 0), x.height(0), x.water(0, 0, 0), x.sail(0, 0),
            x.track(0, 0, 0), x.why(0, 0, 0), x.sign(0, 0), x.times(), x.deepest(0), x.needed(0), x.out(0, 0, 0),
            x.drawn(0, 1, 0), x.image(0), x.restore(0), x.restore(1));
        dueAll("new STATE ahead of BAD", STATE, x.ship(5, 99), x.add(9, 99, 9, 99, 9), x.height(-1), x.water(-1, 61, 2),
            x.sail(-1, 9), x.track(100, -1, 3), x.why(-1, -1, 2), x.sign(100, -1), x.deepest(-1), x.needed(100),
            x.out(-1, 11, 2), x.drawn(13, 0, 2));
        dueAll("new BAD", BAD, x.measure(0, 0, 1), x.become(0, 1), x.tide(0, 1), x.steer(0, 1), x.until(0, 0, 1, 0),
            x.cut(0), x.thing(0, 0), x.leg(0, 0), x.mark(0, 0, 0), x.seen(0, 0, 0, 0), x.line(0, 1, 0, 0),
            x.lines(0, 1, 0), x.courses(0, 0), x.near(0, 0), x.image(2), x.restore(-1));
    }

    // 2
    private static void feed() {
        SailingDirections x = new SailingDirections();
        dueAll("feed BAD", BAD, x.feed(-1), x.feed(256), x.feed(LEAST), x.feed(MOST));
        due("feed(0)", x.feed(0), 1);
        due("feed(255)", x.feed(255), 2);
        for (int i = 3; i <= 160; i++) {
            due("feed " + i, x.feed('h'), i);
        }
        due("feed full", x.feed('h'), FULL);
        due("feed BAD ahead of FULL", x.feed(256), BAD);
        due("full tape", x.count(6), 160);
        due("sheet of it", x.sheet(), -1000100);
        due("feed anew", x.feed('h'), 1);
    }

    // 3
    private static void sheet() {
        SailingDirections x = new SailingDirections();
        due("least sheet", Due.read(x, "h0,0,0;t0;z0,0;g0m1;"), 1);
        due("tape behind it", x.count(6), 0);
        due("no things", x.count(0), 0);
        due("noughts ahead", Due.read(x, "h03,09,00;t07;z01,02;b05,06,07,08;g09m01;"), 1);
        due("X of it", x.thing(0, 1), 5);
        due("B of it", x.thing(0, 4), 8);
        due("COURSE of it", x.leg(0, 0), 9);
        due("greatest of all", Due.read(x, "h20,60,60;t20,20,20,20,20,20;z60,60;k60,60,15,20;g15m60;g0i7,7;g0d60;g0e7;g1a7;g0d0;"), 6);
        due("six heights", x.count(4), 6);
        due("it is told anew", x.ship(0, 1), 20);
        StringBuilder eight = new StringBuilder("h0,0,0;t0;z0,0;");
        for (int i = 0; i < 8; i++) {
            eight.append("b0,0,0,").append(i).append(';');
        }
        due("eight things", Due.read(x, eight + "g0m1;"), 1);
        due("eight of them", x.count(0), 8);
        due("the last of them", x.thing(7, 4), 7);
        due("rich", Due.read(x, RICH), 5);
        int[] sorts = {1, 1, 2, 3, 4, 5, 6};
        for (int i = 0; i < sorts.length; i++) {
            due("SORT " + i, x.thing(i, 0), sorts[i]);
        }
        due("act", x.ship(0, 7), 3);
        x.image(0);
        due("a fault", Due.read(x, "h3,10,10;"), -1000109);
        due("the act stays", x.count(5), 1);
        due("the sheet stays", x.ship(0, 7), 7);
        due("the tape is empty", x.count(6), 0);
        due("another sheet", Due.read(x, SMALL), 1);
        due("no act can be undone", x.undo(), STATE);
        due("images stay", x.restore(0), 1);
        due("as it was", x.ship(0, 1), 7);
    }

    /** The sign ^ stands ahead of the token that has the fault. */
    private static void faultAt(int number, String marked) {
        SailingDirections x = new SailingDirections();
        String text = marked.replace("^", "");
        due("sheet of " + marked, Due.read(x, text), -1000100 - marked.indexOf('^'));
        due("fault of " + marked, x.fault(), number);
        due("no sheet by " + marked, x.times(), STATE);
    }

    // 3, 4
    private static void faults() {
        String ship = "h3,10,10;";
        String head = ship + "t4;z30,30;";
        String thing = "b1,2,3,4;";
        for (String text : new String[] {"^", "^x", "^H3", "^;", "^3,", "h^", "h^,", "h^h", "h^021,0,0;", "h^123", "h3^;",
            "h3,10,10^,", "h3,10,10^g", ship + "^", ship + "^z", ship + "t^;", ship + "t^444",
            ship + "t1,2,3,4,5,6^,7;z0,0;g0m1;", ship + "t1,2,3,4,5,6^g", ship + "t1,^;", ship + "t4;^t4;",
            ship + "t4;z3^;", ship + "t4;z3,4^,", head + "^", head + "^q", head + "^z", head + "b1,2,3^;",
            head + "b1,2,3,4^,", head + "b1^g0m1;", head + "b1^b2,3,4,5;g0m1;", head + "b1,2,3,4^g0m1;",
            head + "b^b", head + thing + "^", head + "g0^;", head + "g0^x1;", head + "g0m^;",
            head + "g0m1^,", head + "g0i1^;", head + "g0i1,^;", head + "g0a1^,1;", head + "g0m1;^b1,2,3,4;",
            head + "g0m1;^ ", head + "g0m1;^m", head + "g0m^100;", head + "g^m1;", head + "g0m1;g0m1^", "h3^ ,1,1;",
            "h3^\u00e9", "^\u0000", head + "g0^M1;", "h^-1"}) {
            faultAt(1, text);
        }
        for (String text : new String[] {"h^21,0,0;", "h^99", "h20,^61,0;", "h0,60,^61;", ship + "t^21;",
            ship + "t20,^21;", ship + "t4;z^61,0;", ship + "t4;z0,^61;", head + "b^61,0,0,0;", head + "b0,^61,0,0;",
            head + "b0,0,^16,0;", head + "b0,0,15,^21;", head + "g^16m1;", head + "g0m^0;", head + "g0m^00;",
            head + "g0m^61;", head + "g0a^8;", head + "g0i^8,0;", head + "g0i7,^8;", head + "g0e^8;", head + "g0d^61;"}) {
            faultAt(2, text);
        }
        StringBuilder eight = new StringBuilder(head);
        for (int i = 0; i < 8; i++) {
            eight.append(thing);
        }
        faultAt(3, eight + "^b1,2,3,4;g0m1;");
        faultAt(3, eight + "^k99");
        faultAt(1, eight + "^q");
        faultAt(1, eight + "g0m1;^b");
        String six = head + "g0m1;g0m1;g0m1;g0m1;g0m1;g0m1;";
        faultAt(3, six + "^g0m1;");
        faultAt(3, six + "^g");
        faultAt(1, six + "^b");
        SailingDirections x = new SailingDirections();
        due("fault() at first", x.fault(), 0);
        Due.read(x, "h21");
        due("fault() 2", x.fault(), 2);
        Due.read(x, SMALL);
        due("fault() behind a good sheet", x.fault(), 2);
        Due.courseNamed(x, "nope");
        due("fault() behind no name", x.fault(), 2);
        Due.read(x, "");
        due("fault() 1", x.fault(), 1);
    }

    // 5
    private static void courseNames() {
        SailingDirections x = new SailingDirections();
        String[] names = {"n", "nne", "ne", "ene", "e", "ese", "se", "sse", "s", "ssw", "sw", "wsw", "w", "wnw", "nw", "nnw"};
        for (int i = 0; i < names.length; i++) {
            due("course " + names[i], Due.courseNamed(x, names[i]), i);
        }
        for (String name : new String[] {"", "nn", "N", "n ", " n", "nnee", "en", "nnwn", "4", "n;", "sss"}) {
            due("course of [" + name + "]", Due.courseNamed(x, name), NONE);
            due("tape behind [" + name + "]", x.count(6), 0);
        }
    }

    // 6
    private static void undo() {
        SailingDirections x = Due.told(RICH);
        for (int i = 1; i <= 25; i++) {
            x.ship(1, i);
            due("acts kept", x.count(5), Math.min(i, 20));
        }
        for (int left = 19; left >= 0; left--) {
            due("undo", x.undo(), left);
        }
        due("undo none", x.undo(), STATE);
        due("the oldest are forgotten", x.ship(1, 5), 5);
        due("undo of the same", x.undo(), 0);
        x = Due.told(RICH);
        String before = cells(x);
        x.measure(0, 0, 9);
        x.become(0, 6);
        x.ship(4, 1);
        x.tide(2, 20);
        x.steer(1, 9);
        x.until(2, 4, 60, 0);
        x.add(0, 1, 2, 3, 4);
        x.cut(3);
        x.cut(0);
        due("nine acts", x.count(5), 9);
        for (int i = 8; i >= 0; i--) {
            due("undo of nine", x.undo(), i);
        }
        Due.due("all as it was", cells(x), before);
        x.measure(0, 0, 61);
        x.become(0, 1);
        x.ship(0, 21);
        x.cut(9);
        due("what is refused is no act", x.undo(), STATE);
    }

    private static String cells(SailingDirections x) {
        StringBuilder text = new StringBuilder();
        for (int i = 0; i < 8; i++) {
            for (int what = 0; what < 5; what++) {
                text.append(x.thing(i, what)).append(' ').append(x.leg(i, what)).append(' ');
            }
        }
        for (int m = 0; m < 60; m += 10) {
            text.append(x.height(m)).append(' ');
        }
        text.append(x.track(0, 0, 0)).append(' ').append(x.track(0, 0, 1)).append(' ').append(Due.causes(x, 0));
        return text.toString();
    }

    // 7
    private static void measure() {
        SailingDirections x = Due.told(RICH);
        due("X", x.measure(0, 0, 60), 30);
        due("Y", x.measure(0, 1, 0), 45);
        due("A", x.measure(0, 2, 15), 1);
        due("B", x.measure(0, 3, 20), 2);
        due("X then", x.thing(0, 1), 60);
        due("Y then", x.thing(0, 2), 0);
        due("A then", x.thing(0, 3), 15);
        due("B then", x.thing(0, 4), 20);
        due("as it was", x.measure(0, 0, 60), 60);
        due("that is an act", x.count(5), 5);
        dueAll("measure BAD", BAD, x.measure(7, 0, 1), x.measure(-1, 0, 1), x.measure(0, 4, 1), x.measure(0, -1, 1),
            x.measure(0, 0, 61), x.measure(0, 1, 61), x.measure(0, 2, 16), x.measure(0, 3, 21), x.measure(0, 0, -1),
            x.measure(MOST, MOST, MOST), x.measure(LEAST, LEAST, LEAST));
    }

    // 8
    private static void become() {
        SailingDirections x = Due.told(RICH);
        due("become", x.become(0, 6), 1);
        due("SORT", x.thing(0, 0), 6);
        due("marks", x.count(1), 3);
        due("become it", x.become(0, 6), STATE);
        due("one act", x.count(5), 1);
        dueAll("become BAD", BAD, x.become(0, 0), x.become(0, 7), x.become(7, 1), x.become(-1, 1), x.become(LEAST, MOST));
        due("A stays", x.thing(0, 3), 1);
    }

    // 9
    private static void ship() {
        SailingDirections x = Due.told(RICH);
        int[] was = {3, 10, 12, 30, 40};
        for (int which = 0; which < 5; which++) {
            int most = which == 0 ? 20 : 60;
            due("ship " + which, x.ship(which, most), was[which]);
            due("ship again " + which, x.ship(which, 0), most);
            dueAll("ship BAD", BAD, x.ship(which, most + 1), x.ship(which, -1), x.ship(which, MOST));
        }
        dueAll("ship BAD", BAD, x.ship(5, 0), x.ship(-1, 0), x.ship(LEAST, 0));
        due("acts", x.count(5), 10);
        x.ship(1, 7);
        x.ship(2, 9);
        due("where she lies", x.track(0, 0, 0) * 100 + x.track(0, 0, 1), 709);
    }

    // 10
    private static void tide() {
        SailingDirections x = Due.told(RICH);
        due("tide 0", x.tide(0, 20), 8);
        due("tide 2", x.tide(2, 5), 0);
        due("height then", x.height(20), 5);
        dueAll("tide BAD", BAD, x.tide(3, 1), x.tide(-1, 1), x.tide(0, 21), x.tide(0, -1), x.tide(MOST, LEAST));
        due("acts", x.count(5), 2);
    }

    // 11
    private static void steer() {
        SailingDirections x = Due.told(RICH);
        due("steer", x.steer(4, 15), 10);
        due("steer again", x.steer(4, 0), 15);
        due("COURSE", x.leg(4, 0), 0);
        due("as it was", x.steer(4, 0), 0);
        dueAll("steer BAD", BAD, x.steer(5, 0), x.steer(-1, 0), x.steer(0, 16), x.steer(0, -1), x.steer(LEAST, MOST));
        due("acts", x.count(5), 3);
    }

    // 12
    private static void until() {
        SailingDirections x = Due.told(RICH);
        due("until i", x.until(0, 2, 7, 0), 0);
        due("T", x.leg(0, 2), 7);
        due("U", x.leg(0, 3), 0);
        due("until m", x.until(0, 0, 60, 99), 2);
        due("no U", x.leg(0, 3), NONE);
        due("until d", x.until(0, 4, 0, MOST), 0);
        due("until e", x.until(0, 3, 7, LEAST), 4);
        due("until a", x.until(0, 1, 0, -1), 3);
        due("sort", x.leg(0, 1), 1);
        dueAll("until BAD", BAD, x.until(5, 0, 1, 0), x.until(-1, 0, 1, 0), x.until(0, 5, 1, 0), x.until(0, -1, 1, 0),
            x.until(0, 0, 0, 0), x.until(0, 0, 61, 0), x.until(0, 1, 8, 0), x.until(0, 1, -1, 0), x.until(0, 2, 8, 0),
            x.until(0, 2, 0, 8), x.until(0, 2, 0, -1), x.until(0, 3, 8, 0), x.until(0, 4, 61, 0), x.until(0, 4, -1, 0));
        due("acts", x.count(5), 5);
        due("undo", x.undo(), 4);
        x.undo();
        x.undo();
        x.undo();
        due("U is back", x.leg(0, 3), 0);
    }

    // 13
    private static void add() {
        SailingDirections x = Due.told(RICH);
        dueAll("add BAD", BAD, x.add(-1, 0, 0, 1, 0), x.add(6, 0, 0, 1, 0), x.add(0, 16, 0, 1, 0), x.add(0, -1, 0, 1, 0),
            x.add(0, 0, 5, 1, 0), x.add(0, 0, 0, 0, 0), x.add(0, 0, 2, 0, 8));
        due("add", x.add(2, 13, 2, 5, 6), 6);
        int[][] legs = {{2, 0, 4, NONE}, {4, 1, 0, NONE}, {13, 2, 5, 6}, {6, 2, 1, 2}, {8, 3, 2, NONE}, {10, 4, 7, NONE}};
        for (int i = 0; i < 6; i++) {
            for (int what = 0; what < 4; what++) {
                due("leg " + i + " " + what, x.leg(i, what), legs[i][what]);
            }
        }
        due("add full", x.add(6, 0, 0, 1, 0), FULL);
        dueAll("add BAD ahead of FULL", BAD, x.add(7, 0, 0, 1, 0), x.add(0, 0, 0, 61, 0));
        due("acts", x.count(5), 1);
        x = Due.told(SMALL);
        due("add ahead", x.add(0, 4, 0, 1, 0), 2);
        due("add behind", x.add(2, 8, 4, 9, 0), 3);
        due("first", x.leg(0, 0), 4);
        due("middle", x.leg(1, 2), 10);
        due("last", x.leg(2, 0), 8);
    }

    // 14
    private static void cut() {
        SailingDirections x = Due.told(RICH);
        dueAll("cut BAD", BAD, x.cut(5), x.cut(-1), x.cut(MOST), x.cut(LEAST));
        due("cut the middle", x.cut(2), 4);
        due("behind it", x.leg(2, 0), 8);
        due("cut the last", x.cut(3), 3);
        due("cut the first", x.cut(0), 2);
        due("first", x.leg(0, 0), 4);
        due("cut", x.cut(1), 1);
        due("cut the only one", x.cut(0), STATE);
        due("cut BAD ahead of STATE", x.cut(1), BAD);
        due("acts", x.count(5), 4);
    }

    // 15, 16
    private static void thingAndLeg() {
        SailingDirections x = Due.told(RICH);
        int[] rock = {5, 40, 40, 3, 4};
        for (int what = 0; what < 5; what++) {
            due("thing " + what, x.thing(5, what), rock[what]);
        }
        dueAll("thing BAD", BAD, x.thing(7, 0), x.thing(-1, 0), x.thing(0, 5), x.thing(0, -1), x.thing(MOST, LEAST));
        int[][] legs = {{2, 0, 4, NONE}, {4, 1, 0, NONE}, {6, 2, 1, 2}, {8, 3, 2, NONE}, {10, 4, 7, NONE}};
        for (int i = 0; i < 5; i++) {
            for (int what = 0; what < 4; what++) {
                due("leg " + i + " " + what, x.leg(i, what), legs[i][what]);
            }
        }
        dueAll("leg BAD", BAD, x.leg(5, 0), x.leg(-1, 0), x.leg(0, 4), x.leg(0, -1), x.leg(LEAST, MOST));
    }

    // 17
    private static void height() {
        SailingDirections x = Due.told(RICH);
        int[][] want = {{0, 8}, {1, 9}, {5, 14}, {9, 18}, {10, 20}, {11, 18}, {19, 2}, {20, 0}, {21, 0}, {23, 2}, {29, 7},
            {30, 8}, {31, 9}, {9999, 18}, {9989, 7}};
        for (int[] pair : want) {
            due("height " + pair[0], x.height(pair[0]), pair[1]);
        }
        dueAll("height BAD", BAD, x.height(-1), x.height(10000), x.height(LEAST), x.height(MOST));
        x = Due.told("h0,0,0;t7;z0,0;g0m1;");
        dueAll("one height", 7, x.height(0), x.height(5), x.height(9999));
        x = Due.told("h0,0,0;t3,0;z0,0;g0m1;");
        due("cut towards 0", x.height(1), 3);
        due("cut towards 0", x.height(4), 2);
        due("cut towards 0", x.height(14), 1);
    }

    // 18
    private static void water() {
        SailingDirections x = Due.told("h0,0,0;t3;z0,0;b20,30,9,1;s20,30,5,4;r24,33,1,2;k40,40,2,4;s41,41,9,4;g0m1;");
        due("open", x.water(0, 0, 0), 40);
        due("open shoal", x.water(0, 0, 1), NONE);
        due("shoal", x.water(20, 30, 0), 4);
        due("FIRST", x.water(20, 30, 1), 1);
        due("its edge", x.water(23, 34, 0), 4);
        due("its edge", x.water(24, 34, 0), -2);
        due("outside", x.water(24, 35, 0), 40);
        due("rock", x.water(24, 33, 0), -2);
        due("rock first", x.water(24, 33, 1), 2);
        due("bank and shoal", x.water(42, 42, 0), 4);
        due("the first of them", x.water(42, 42, 1), 3);
        due("the bank's corner", x.water(38, 38, 1), 3);
        due("beside the bank", x.water(37, 38, 1), 4);
        dueAll("water BAD", BAD, x.water(-1, 0, 0), x.water(61, 0, 0), x.water(0, -1, 0), x.water(0, 61, 0),
            x.water(0, 0, 2), x.water(0, 0, -1), x.water(MOST, LEAST, 0));
        due("the corner of the chart", x.water(60, 60, 1), NONE);
        due("the reach of nothing", x.measure(2, 2, 0), 1);
        due("its own place", x.water(24, 33, 1), 2);
        due("beside it", x.water(24, 34, 1), NONE);
    }

    // 19
    private static void mark() {
        SailingDirections x = Due.told(RICH);
        due("buoy 0", x.mark(3, 0, 0), 32);
        due("buoy 10", x.mark(3, 10, 0), 35);
        due("buoy 11", x.mark(3, 11, 0), 34);
        due("buoy Y", x.mark(3, 10, 1), 20);
        due("beacon", x.mark(0, 10, 0), 30);
        due("light", x.mark(2, 9999, 1), 20);
        dueAll("mark STATE", STATE, x.mark(4, 0, 0), x.mark(5, 0, 0), x.mark(6, 9999, 1));
        dueAll("mark BAD", BAD, x.mark(7, 0, 0), x.mark(-1, 0, 0), x.mark(0, -1, 0), x.mark(0, 10000, 0),
            x.mark(0, 0, 2), x.mark(0, 0, -1), x.mark(4, 10000, 0));
    }

    // 20
    private static void seen() {
        SailingDirections x = Due.told(RICH);
        due("beacon 20", x.seen(0, 42, 29, 0), 1);
        due("beacon more", x.seen(0, 43, 29, 0), 0);
        due("beacon here", x.seen(0, 30, 45, 0), 1);
        due("buoy 10 off its place", x.seen(3, 42, 20, 0), 1);
        due("buoy more", x.seen(3, 43, 20, 0), 0);
        due("buoy by another tide", x.seen(3, 43, 20, 10), 1);
        due("light from afar", x.seen(2, 60, 0, 0), 1);
        due("light shut in", x.seen(2, 60, 60, 0), 0);
        dueAll("seen STATE", STATE, x.seen(4, 0, 0, 0), x.seen(5, 0, 0, 0), x.seen(6, 0, 0, 0));
        dueAll("seen BAD", BAD, x.seen(7, 0, 0, 0), x.seen(-1, 0, 0, 0), x.seen(0, 61, 0, 0), x.seen(0, 0, 61, 0),
            x.seen(0, -1, 0, 0), x.seen(0, 0, -1, 0), x.seen(0, 0, 0, -1), x.seen(0, 0, 0, 10000), x.seen(4, 61, 0, 0));
    }

    /** Every sector from every course on which, and between which, a place can lie. */
    private static void sectors() {
        int[] east = {0, 1, 1, 2, 1, 2, 1, 1, 0, -1, -1, -2, -1, -2, -1, -1};
        int[] north = {1, 2, 1, 1, 0, -1, -1, -2, -1, -2, -1, -1, 0, 1, 1, 2};
        for (int from = 0; from < 16; from++) {
            for (int b = 0; b <= 20; b++) {
                SailingDirections x = Due.told("h0,0,0;t0;z0,0;l30,30," + from + "," + b + ";g0m1;");
                int width = (b % 16 - from + 16) % 16;
                for (int c = 0; c < 16; c++) {
                    int turned = (c - from + 16) % 16;
                    int isIn = width == 0 || turned < width ? 1 : 0;
                    int next = (c + 1) % 16;
                    due("on " + from + " " + b + " " + c, x.seen(0, 30 + 5 * east[c], 30 + 5 * north[c], 0), isIn);
                    due("next to " + from + " " + b + " " + c, x.seen(0, 30 + east[c], 30 + north[c], 0), isIn);
                    due("past " + from + " " + b + " " + c,
                        x.seen(0, 30 + 4 * east[c] + east[next], 30 + 4 * north[c] + north[next], 0), isIn);
                    due("ahead " + from + " " + b + " " + c,
                        x.seen(0, 30 + east[c] + 4 * east[next], 30 + north[c] + 4 * north[next], 0), isIn);
                }
                due("its own", x.seen(0, 30, 30, 0), 1);
            }
        }
    }

    // 21
    private static void line() {
        SailingDirections x = Due.told("h0,0,0;t20;z0,0;b10,10,0,0;u20,30,0,0;s10,10,3,3;g0m1;");
        due("left", x.line(0, 1, 10, 30), 1);
        due("right", x.line(0, 1, 20, 10), -1);
        due("on", x.line(0, 1, 15, 20), 0);
        due("on behind", x.line(0, 1, 5, 0), 0);
        due("on beyond", x.line(0, 1, 35, 60), 0);
        due("the other way", x.line(1, 0, 10, 30), -1);
        due("by a shoal", x.line(1, 2, 10, 30), -1);
        due("one place", x.line(0, 2, 0, 0), STATE);
        dueAll("line BAD", BAD, x.line(0, 0, 0, 0), x.line(0, 3, 0, 0), x.line(-1, 0, 0, 0), x.line(3, 0, 0, 0),
            x.line(0, 1, 61, 0), x.line(0, 1, 0, -1), x.line(0, 2, 61, 0), x.line(MOST, LEAST, 0, 0));
    }

    // 22
    private static void lines() {
        SailingDirections x = Due.told("h0,0,0;t0;z0,0;b10,10,0,0;b50,10,0,0;s20,20,9,0;s20,20,10,0;r30,5,4,0;"
            + "k30,4,6,0;k30,2,7,0;s40,12,0,0;g0m1;");
        due("left", x.lines(0, 1, 0), 4 + 128);
        due("right", x.lines(0, 1, 1), 16 + 64);
        due("neither", x.lines(0, 1, 2), 8 + 32);
        due("left, the other way", x.lines(1, 0, 0), 16 + 64);
        due("right, the other way", x.lines(1, 0, 1), 4 + 128);
        due("its own middle", x.lines(0, 7, 2) & 128, 128);
        dueAll("lines BAD", BAD, x.lines(0, 0, 0), x.lines(0, 8, 0), x.lines(-1, 0, 0), x.lines(0, 1, 3), x.lines(0, 1, -1));
        due("one place", x.lines(2, 3, 0), STATE);
        due("BAD ahead of it", x.lines(2, 3, 3), BAD);
        x = Due.told("h0,0,0;t0;z0,0;b0,0,0,0;b30,40,0,0;s0,25,15,0;s1,25,15,0;k0,14,2,0;k1,13,2,0;g0m1;");
        due("slant: touching is neither", x.lines(0, 1, 2), 4 + 8);
        due("slant: wholly left", x.lines(0, 1, 0), 16 + 32);
        x.measure(2, 2, 14);
        due("slant: less reach", x.lines(0, 1, 0), 4 + 16 + 32);
        x.measure(5, 1, 6);
        due("slant: a corner touches", x.lines(0, 1, 0), 4 + 16);
        x = Due.told("h0,0,0;t0;z0,0;b0,0,0,0;b10,10,0,0;k0,4,2,0;k0,5,2,0;k4,0,2,0;k5,0,2,0;s3,4,0,0;s4,4,0,0;g0m1;");
        due("diagonal: left", x.lines(0, 1, 0), 8 + 64);
        due("diagonal: right", x.lines(0, 1, 1), 32);
        due("diagonal: neither", x.lines(0, 1, 2), 4 + 16 + 128);
    }

    private static void sails(SailingDirections x, int t, int... want) {
        for (int what = 0; what < want.length; what++) {
            due("sail(" + t + ", " + what + ")", x.sail(t, what), want[what]);
        }
    }

    // 23
    private static void sail() {
        SailingDirections x = Due.told(SMALL);
        sails(x, 0, 10, 30, 40, 1, 1, 35, 1);
        sails(x, 99, 10, 30, 40, 1, 1, 35, 1);
        dueAll("sail BAD", BAD, x.sail(-1, 0), x.sail(100, 0), x.sail(0, 7), x.sail(0, -1), x.sail(MOST, LEAST));
        x.ship(4, 43);
        due("3 far", x.sail(0, 4), 1);
        x.ship(4, 44);
        due("4 far", x.sail(0, 4), 0);
        x.ship(3, 32);
        x.ship(4, 42);
        due("8", x.sail(0, 4), 1);
        x.ship(3, 33);
        x.ship(4, 41);
        due("10", x.sail(0, 4), 0);
        x = Due.told("h5,0,30;t0,9;z60,30;s20,30,2,6;s40,30,1,6;g4m60;");
        sails(x, 1, 60, 60, 30, 1, 1, 1, 19);
        due("the first minute that has the least", x.sail(2, 5) * 100 + x.sail(2, 6), 118);
        x = Due.told("h0,60,60;t0;z0,0;g2m1;");
        sails(x, 0, 1, 61, 61, 0, 0, NONE, NONE);
        x = Due.told("h0,30,30;t0;z30,30;g0m60;g8m60;g4m60;");
        sails(x, 0, 31, 30, 61, 0, 0, 40, 1);
        x = Due.told("h20,0,0;t0;z0,0;s0,0,1,0;g0m60;g8m60;g0m60;g8m60;g0m60;g8m60;");
        sails(x, 0, 1, 0, 1, 0, 0, -20, 1);
        x.become(0, 1);
        sails(x, 0, 360, 0, 0, 6, 1, 20, 1);
    }

    // 24
    private static void track() {
        SailingDirections x = Due.told("h0,10,10;t0;z0,0;g3m2;g9m3;");
        int[][] want = {{10, 10, NONE}, {12, 11, 0}, {14, 12, 0}, {13, 10, 1}, {12, 8, 1}, {11, 6, 1}, {NONE, NONE, NONE}};
        for (int k = 0; k < want.length; k++) {
            for (int what = 0; what < 3; what++) {
                due("track(0, " + k + ", " + what + ")", x.track(0, k, what), want[k][what]);
            }
        }
        due("far behind", x.track(99, MOST, 0), NONE);
        dueAll("track BAD", BAD, x.track(-1, 0, 0), x.track(100, 0, 0), x.track(0, -1, 0), x.track(0, 0, 3), x.track(0, 0, -1),
            x.track(0, LEAST, 0));
        int[] east = {0, 1, 1, 2, 1, 2, 1, 1, 0, -1, -1, -2, -1, -2, -1, -1};
        int[] north = {1, 2, 1, 1, 0, -1, -1, -2, -1, -2, -1, -1, 0, 1, 1, 2};
        for (int c = 0; c < 16; c++) {
            x.steer(0, c);
            due("east by " + c, x.track(0, 1, 0), 10 + east[c]);
            due("north by " + c, x.track(0, 1, 1), 10 + north[c]);
        }
        x = Due.told("h0,0,0;t0;z0,0;g4m60;g12m60;g4m60;g12m60;g4m60;g12m60;");
        due("the last minute that can be", x.track(0, 360, 2) * 100 + x.track(0, 360, 0), 500);
        due("not more", x.track(0, 361, 0), NONE);
        due("ahead of it", x.track(0, 359, 0), 1);
        x = Due.told("h0,59,30;t0;z0,0;g3m9;");
        due("where she is off", x.track(0, 1, 0) * 100 + x.track(0, 1, 1), 6131);
        due("not more", x.track(0, 2, 0), NONE);
    }

    private static void causes(String want, SailingDirections x, int t) {
        Due.due("causes from " + t, Due.causes(x, t), want);
    }

    // 25
    private static void whyOff() {
        causes("1:0 2:2 3:0", Due.told("h0,1,30;t0;z0,0;g12m9;"), 0);
        causes("1:0 2:2 3:1", Due.told("h0,59,30;t0;z0,0;g4m9;"), 0);
        causes("1:0 2:2 3:2", Due.told("h0,30,1;t0;z0,0;g8m9;"), 0);
        causes("1:0 2:2 3:3", Due.told("h0,30,59;t0;z0,0;g0m9;"), 0);
        causes("1:0 2:1 3:0", Due.told("h0,0,0;t0;z0,0;g11m1;"), 0);
        causes("1:0 2:1 3:2", Due.told("h0,0,0;t0;z0,0;g8m1;"), 0);
        causes("1:0 2:1 3:2", Due.told("h0,60,0;t0;z0,0;g8m1;"), 0);
        causes("1:0 2:1 3:3", Due.told("h0,0,60;t0;z0,0;g0m1;"), 0);
        causes("1:0 2:1 3:3", Due.told("h0,60,60;t0;z0,0;g0m1;"), 0);
        causes("1:0 2:1 3:1", Due.told("h0,60,60;t0;z0,0;g3m1;"), 0);
        causes("1:1 2:7 3:0", Due.told("h0,1,30;t0;z0,0;g0m5;g12m9;"), 0);
        SailingDirections x = Due.told(SMALL);
        due("she arrives", x.why(0, 0, 0), NONE);
        due("she arrives", x.why(0, MOST, 1), NONE);
        dueAll("why BAD", BAD, x.why(-1, 0, 0), x.why(100, 0, 0), x.why(0, -1, 0), x.why(0, 0, 2), x.why(0, 0, -1));
    }

    private static void whyAground() {
        SailingDirections x = Due.told("h5,30,30;t0,10;z30,40;s30,32,0,3;g0m10;");
        causes("", x, 0);
        due("just enough", x.sail(0, 5), 0);
        x.ship(0, 6);
        causes("1:0 2:2 4:0 6:1", x, 0);
        sails(x, 0, 2, 30, 32, 0, 0, -1, 2);
        causes("", x, 10);
        x.ship(0, 13);
        causes("1:0 2:2 4:0 6:8", x, 0);
        causes("", x, 8);
        x.ship(0, 14);
        causes("1:0 2:2 4:0 7:1", x, 0);
        causes("1:0 2:2 4:0 7:1", x, 8);
        x.become(0, 5);
        causes("1:0 2:2 4:0 7:7", x, 0);
        x.ship(0, 0);
        causes("1:0 2:2 4:0 6:1", x, 0);
        x.become(0, 4);
        x.until(0, 4, 5, 0);
        x.ship(0, 6);
        causes("1:0 2:2 4:0 6:1", x, 0);
        x = Due.told("h9,30,30;t0;z30,40;b30,31,2,0;s30,32,1,5;k30,32,1,5;r30,32,0,2;g0m10;");
        causes("1:0 2:1 4:1 7:4", x, 0);
        Due.read(x, "h9,30,30;t0,20;z30,40;s30,31,0,5;g0m10;");
        causes("1:0 2:1 4:0 6:2", x, 0);
        Due.read(x, "h9,30,30;t2;z30,40;s30,31,0,5;g0m10;");
        causes("1:0 2:1 4:0 7:2", x, 0);
    }

    private static void whyOverdue() {
        SailingDirections x = Due.told("h5,0,30;t0;z60,30;b30,60,0,0;b30,40,0,0;l0,60,9,8;g4a0;");
        causes("1:0 2:60 5:1 8:0", x, 0);
        x.until(0, 2, 1, 0);
        causes("1:0 2:60 5:2 8:1", x, 0);
        x.measure(1, 0, 60);
        x.measure(1, 1, 31);
        causes("1:0 2:60 5:2 8:0", x, 0);
        x.until(0, 3, 2, 0);
        x.measure(2, 3, 9);
        causes("1:0 2:60 5:3", x, 0);
        x.until(0, 4, 39, 0);
        causes("1:0 2:60 5:4", x, 0);
        x = Due.told("h5,0,30;t20;z60,30;u60,30,0,0;u60,34,0,0;g4a0;");
        causes("1:0 2:60 5:1", x, 0);
        x.until(0, 2, 0, 1);
        causes("1:0 2:60 5:2", x, 0);
        Due.due("log", Due.log(x, 0), "E60;!1,2,5");
    }

    private static void whyMistakenOrMissed() {
        SailingDirections x = Due.told("h5,30,30;t0;z30,40;b30,35,0,0;s50,50,0,0;l31,31,0,0;g0m3;g0a2;g0m1;");
        x.until(1, 1, 3, 0);
        causes("1:1 9:3", x, 0);
        sails(x, 0, 3, 30, 33, 1, 0, 35, 1);
        x.until(1, 1, 1, 0);
        causes("1:1 9:1", x, 0);
        x.until(1, 2, 1, 7);
        causes("1:1 9:1", x, 0);
        x.until(1, 2, 0, 7);
        causes("1:1 9:7", x, 0);
        x.until(1, 3, 0, 0);
        causes("1:1 9:0", x, 0);
        x.until(1, 0, 2, 0);
        causes("1:3 10:16", x, 0);
        due("all are done", x.sail(0, 3), 3);
        x.ship(3, 34);
        causes("1:3 10:32", x, 0);
        x.ship(4, 36);
        causes("1:3 10:16", x, 0);
        x.ship(3, 33);
        causes("", x, 0);
    }

    private static void untilsAbeam() {
        SailingDirections x = Due.told("h5,10,30;t0;z30,30;b30,50,0,0;u28,30,0,0;g4a0;");
        sails(x, 0, 20, 30, 30, 1, 1);
        x.measure(0, 0, 29);
        due("abeam and 19, 20 far", x.sail(0, 0), 19);
        x.measure(0, 1, 51);
        due("abeam, but too far", x.sail(0, 0), 51);
        x.measure(0, 1, 50);
        x.steer(0, 3);
        due("by a slanting course", x.sail(0, 0), 12);
        x.steer(0, 4);
        x.until(0, 1, 1, 0);
        due("a buoy", x.sail(0, 0), 18);
        x.tide(0, 8);
        due("the buoy drifts", x.sail(0, 0), 20);
        x.ship(1, 39);
        due("she is past it at once", x.sail(0, 0), 1);
        x.ship(1, 40);
        due("past it, too far", x.sail(0, 0), 21);
    }

    private static void untilsInLine() {
        SailingDirections x = Due.told("h0,10,10;t0;z20,10;b20,20,0,0;b20,30,0,0;g4i0,1;");
        sails(x, 0, 10, 20, 10, 1, 1);
        x.until(0, 2, 1, 0);
        due("the other order", x.sail(0, 0), 10);
        x.measure(1, 1, 31);
        due("one is too far", x.sail(0, 0), 51);
        causes("1:0 2:51 3:1", x, 0);
        x.measure(1, 1, 25);
        x.measure(0, 0, 21);
        x.measure(1, 0, 21);
        x.steer(0, 3);
        due("passed between two minutes", x.sail(0, 0), 6);
        x.ship(1, 22);
        x.steer(0, 4);
        due("not passed when behind her", x.sail(0, 4), 0);
        x.steer(0, 12);
        due("from the east", x.sail(0, 0), 1);
        x.ship(1, 24);
        due("from the east", x.sail(0, 0), 3);
        x.until(0, 2, 0, 0);
        due("one and the same is in line", x.sail(0, 0), 1);
        x = Due.told("h0,21,10;t0;z20,10;b21,20,0,0;b21,25,0,0;g4i0,1;");
        due("in line as it began is none", x.sail(0, 0), 40);
        x.until(0, 2, 1, 0);
        due("nor is it the other way", x.sail(0, 0), 40);
        x = Due.told("h0,30,30;t0;z30,30;b30,31,0,0;b31,32,0,0;g4i0,1;");
        due("S is 1 less than 0, and was 1 less", x.sail(0, 0), 31);
        x.steer(0, 12);
        due("S is 0", x.sail(0, 0), 1);
        x.steer(0, 11);
        due("S was 1 less than 0 and is 2 more", x.sail(0, 0), 1);
        x.until(0, 2, 1, 0);
        due("S was 1 more than 0 and is 2 less", x.sail(0, 0), 1);
        x = Due.told("h0,30,30;t0;z30,30;b29,31,0,0;b29,32,0,0;g13i0,1;");
        due("S was 1 less than 0 and is 1 more", x.sail(0, 0), 1);
        x.until(0, 2, 1, 0);
        due("S was 1 more than 0 and is 1 less", x.sail(0, 0), 1);
        x = Due.told("h0,30,30;t0,20;z30,30;u29,40,0,0;b30,38,0,0;g0i0,1;g8m1;");
        due("a buoy comes in line", x.sail(0, 0), 3);
        x = Due.told("h0,30,20;t0,20;z30,30;u28,40,0,0;b30,38,0,0;g0m11;g0i0,1;");
        due("a buoy is where the tide has it as the leg begins", x.sail(0, 0), 15);
    }

    private static void untilsLight() {
        SailingDirections x = Due.told("h0,20,40;t0;z30,40;l30,30,0,4;g4e0;");
        sails(x, 0, 10, 30, 40, 1, 1);
        x.ship(1, 35);
        x.steer(0, 12);
        due("shut in", x.sail(0, 0), 6);
        x.ship(1, 30);
        due("shut in at once", x.sail(0, 0), 1);
        x.ship(1, 29);
        causes("1:0 2:30 3:0", x, 0);
        x.steer(0, 8);
        causes("1:0 2:41 3:2", x, 0);
        x.ship(1, 35);
        due("opens no more to the east", x.sail(0, 0), 10);
    }

    private static void untilsDepth() {
        SailingDirections x = Due.told("h0,20,30;t0,10;z27,30;s30,30,3,2;g4d11;");
        sails(x, 0, 7, 27, 30, 1, 1, 9, 7);
        x.until(0, 4, 9, 0);
        due("as much", x.sail(0, 0), 7);
        x.until(0, 4, 8, 0);
        causes("1:0 2:41 3:1", x, 0);
        due("as the tide falls", x.sail(6, 0), 8);
        x.until(0, 4, 60, 0);
        due("at once", x.sail(0, 0), 1);
        x = Due.told("h0,0,30;t0;z60,30;g4m60;");
        due("the 60th minute", x.sail(0, 4), 1);
        x.until(0, 4, 39, 0);
        causes("1:0 2:60 5:4", x, 0);
    }

    // 26
    private static void sign() {
        Due.due("log", Due.log(Due.told(SMALL), 0), "N10;.");
        SailingDirections x = Due.told("h5,30,30;t0;z30,40;g13m3;g9m10;g0a5;");
        Due.due("log, mistaken", Due.log(x, 0), "WNW3;SSW10;N0;!1,9");
        x.until(2, 0, 9, 0);
        Due.due("log, missed", Due.log(x, 0), "WNW3;SSW10;N9;!1,10");
        x.steer(1, 12);
        x.until(1, 0, 60, 0);
        Due.due("log, off", Due.log(x, 0), "WNW3;W25;!1,2,3");
        due("the first", x.sign(0, 0), 'W');
        due("behind the last", x.sign(0, 15), NONE);
        due("far behind", x.sign(0, MOST), NONE);
        dueAll("sign BAD", BAD, x.sign(-1, 0), x.sign(100, 0), x.sign(0, -1), x.sign(0, LEAST));
        x = Due.told("h9,30,30;t0,20;z30,40;s30,45,9,3;g0m60;");
        Due.due("log, aground", Due.log(x, 15), "N6;!1,2,4,6");
        x = Due.told("h0,3,0;t0;z0,0;s0,58,9,0;g1m10;g15m10;g1m1;g9m1;g15m1;g7d60;");
        Due.due("long log", Due.log(x, 0), "NNE10;NNW10;NNE1;SSW1;NNW1;SSE1;!1,10");
    }

    // 27
    private static void times() {
        SailingDirections x = Due.told("h5,30,30;t0,10;z30,32;s30,31,0,3;g0m2;");
        int want = 0;
        for (int t = 0; t < 30; t++) {
            want |= (t >= 1 && t <= 17) || t >= 21 ? 1 << t : 0;
        }
        due("times", x.times(), want);
        x.ship(0, 13);
        due("high water alone", x.times(), 1 << 9 | 1 << 29);
        x.ship(0, 14);
        due("never", x.times(), 0);
        x.become(0, 2);
        due("always", x.times(), (1 << 30) - 1);
    }

    // 28
    private static void deepest() {
        SailingDirections x = Due.told("h20,30,30;t0,10;z30,32;s30,31,0,3;g0m2;");
        due("deepest 0", x.deepest(0), 4);
        due("deepest 9", x.deepest(9), 13);
        due("deepest 99", x.deepest(99), 3);
        dueAll("deepest BAD", BAD, x.deepest(-1), x.deepest(100), x.deepest(LEAST), x.deepest(MOST));
        x.become(0, 5);
        due("a rock that just drowns", x.deepest(2), 0);
        due("a rock that does not", x.deepest(1), NONE);
        x.become(0, 1);
        due("open", x.deepest(0), 20);
        x.ship(4, 36);
        due("never arrives", x.deepest(0), NONE);
        due("nothing changes", x.ship(0, 20), 20);
    }

    // 29
    private static void courses() {
        SailingDirections x = Due.told("h5,30,30;t0;z30,32;g0m2;");
        due("courses", x.courses(0, 0), 1 | 1 << 1 | 1 << 2 | 1 << 4 | 1 << 12 | 1 << 14 | 1 << 15);
        dueAll("courses BAD", BAD, x.courses(1, 0), x.courses(-1, 0), x.courses(0, -1), x.courses(0, 100));
        due("nothing changes", x.leg(0, 0), 0);
        x.add(1, 8, 0, 3, 0);
        due("of the second", x.courses(1, 0), 1 | 1 << 4 | 1 << 8 | 1 << 12);
        x = Due.told("h5,30,30;t0;z30,32;b29,50,0,0;g8a0;");
        due("by a mark that is abeam, and just seen, to the west alone", x.courses(0, 0), 1 << 12);
    }

    // 30
    private static void needed() {
        SailingDirections x = Due.told("h5,10,30;t0;z30,30;b30,40,0,0;b31,20,0,0;l0,0,0,0;s50,50,1,1;g4a0;g4i0,1;g4m1;");
        due("needed", x.needed(0), 3);
        x.until(1, 3, 2, 0);
        due("she ends there at that minute, with or without it", x.needed(0), 0);
        x.until(0, 0, 20, 0);
        x.until(1, 0, 1, 0);
        due("none", x.needed(0), 0);
        dueAll("needed BAD", BAD, x.needed(-1), x.needed(100));
        x = Due.told("h5,0,30;t0;z0,30;b60,30,0,0;g4a0;");
        due("only whether she arrives", x.sail(0, 0), 60);
        due("she ends at one place", x.needed(0), 0);
        x.ship(3, 60);
        due("but arrives no more", x.needed(0), 1);
    }

    // 31
    private static void near() {
        SailingDirections x = Due.told("h0,10,10;t20;z0,0;b5,10,0,0;u20,14,0,0;s60,60,15,0;r60,10,0,0;g4m20;");
        due("first of all", x.near(0, 0), 25);
        due("a buoy's own place", x.near(1, 0), 16);
        due("at the end", x.near(2, 0), 900 + 2500);
        x.until(0, 0, 60, 0);
        due("just reached", x.near(3, 0), 0);
        x.steer(0, 3);
        x.ship(1, 9);
        x.measure(3, 1, 36);
        due("off the chart counts, too", x.near(3, 0), 1);
        dueAll("near BAD", BAD, x.near(4, 0), x.near(-1, 0), x.near(0, -1), x.near(0, 100));
    }

    // 32
    private static void out() {
        SailingDirections x = Due.told("h5,10,30;t0;z30,30;b30,40,0,0;b31,20,0,0;l0,0,0,0;b9,9,0,0;g4a0;g4i0,1;g12i1,1;");
        due("she arrives", x.sail(0, 4), 1);
        long[][] want = {{1, 1}, {81, 100}, {16, 25}, {49, 100}, {9, 25}, {1, 4}, {4, 25}, {9, 100}, {1, 25}, {1, 100}, {0, 1}};
        for (int p = 0; p <= 10; p++) {
            due("above " + p, x.out(0, p, 0), want[p][0]);
            due("below " + p, x.out(0, p, 1), want[p][1]);
        }
        dueAll("out BAD", BAD, x.out(-1, 0, 0), x.out(100, 0, 0), x.out(0, -1, 0), x.out(0, 11, 0), x.out(0, 0, 2), x.out(0, 0, -1));
        x.ship(3, 40);
        due("never", x.out(0, 3, 0), 0);
        due("never", x.out(0, 3, 1), 1);
        x = Due.told("h5,30,30;t0;z30,30;b0,0,0,0;g0m1;");
        due("no mark awaited", x.out(0, 10, 0), 1);
        due("no mark awaited", x.out(0, 10, 1), 1);
        x = Due.told("h5,30,30;t0;z0,0;b0,0,0,0;b0,0,0,0;b0,0,0,0;b0,0,0,0;b0,0,0,0;b0,0,0,0;b0,0,0,0;g0i0,1;g0i2,3;g0i4,5;g0a5;");
        due("six", x.out(0, 1, 0), 0);
        x.until(3, 3, 6, 0);
        due("seven", x.out(0, 1, 0), FULL);
        due("BAD ahead of FULL", x.out(0, 11, 0), BAD);
        x.until(3, 0, 6, 0);
        due("minutes are no mark", x.out(0, 1, 0), 0);
        x.until(3, 1, 6, 0);
        x.become(6, 4);
        due("a shoal is no mark", x.out(0, 1, 1), 1);
        x.until(3, 1, 7, 0);
        due("nor is what there is not", x.out(0, 1, 0), 0);
        x.become(0, 4);
        x.until(0, 2, 0, 1);
        x.until(3, 2, 5, 6);
        x.become(6, 1);
        due("six marks and a shoal", x.out(0, 1, 0), 0);
        due("told anew", Due.read(x, "h5,30,30;t0;z30,31;b30,30,0,0;b0,0,0,0;b0,0,0,0;b0,0,0,0;g0a0;"), 1);
        due("by the legs that there are", x.out(0, 1, 1), 10);
    }

    // 33
    private static void drawn() {
        SailingDirections x = Due.told("h20,30,30;t0;z30,32;s30,31,0,9;g0m2;");
        int[] arrivals = {0, 1, 1, 2};
        int[] minutes = {0, 2, 3, 5};
        for (int n = 0; n < 4; n++) {
            due("arrivals of " + n, x.drawn(n, 1, 0), arrivals[n]);
            due("minutes of " + n, x.drawn(n, 1, 1), minutes[n]);
        }
        due("seed 16807 is seed 1 behind its first", x.drawn(2, 16807, 1), 3);
        dueAll("drawn BAD", BAD, x.drawn(-1, 1, 0), x.drawn(13, 1, 0), x.drawn(1, 0, 0), x.drawn(1, 1000000, 0),
            x.drawn(1, 1, 2), x.drawn(1, 1, -1), x.drawn(LEAST, MOST, 0));
        due("nothing changes", x.ship(0, 20), 20);
        x = Due.told("h20,30,30;t0,0,0,0,0,9;z30,32;s30,31,0,2;g0m2;");
        due("by the minute drawn: 7, 49, 73", x.drawn(3, 1, 0), 1);
        x.tide(5, 0);
        due("by the minute drawn: 7, 49, 73", x.drawn(3, 1, 0), 0);
        x.tide(0, 20);
        due("by the minute drawn: 7, 49, 73", x.drawn(3, 1, 0), 1);
        x.tide(5, 20);
        x.tide(4, 20);
        due("by the minute drawn: 7, 49, 73", x.drawn(3, 1, 0), 2);
    }

    // 34, 35
    private static void images() {
        SailingDirections x = Due.told(RICH);
        String rich = cells(Due.told(RICH));
        due("restore none", x.restore(1), STATE);
        due("image", x.image(1), 1);
        due("no act", x.count(5), 0);
        x.measure(0, 0, 1);
        x.cut(0);
        x.tide(0, 1);
        String changed = cells(x);
        due("image 0", x.image(0), 1);
        due("acts stay", x.count(5), 3);
        due("restore", x.restore(1), 1);
        Due.due("as kept", cells(x), rich);
        due("no act can be undone", x.undo(), STATE);
        x.measure(3, 3, 3);
        due("restore 0", x.restore(0), 1);
        Due.due("as kept", cells(x), changed);
        due("no act", x.count(5), 0);
    }

    private static void imagesStay() {
        SailingDirections x = Due.told(RICH);
        String rich = cells(x);
        x.image(0);
        x.become(1, 6);
        due("the image stays", x.restore(0), 1);
        Due.due("as kept", cells(x), rich);
        Due.tell(x, "h1");
        x.restore(0);
        due("the tape stays", x.count(6), 2);
        dueAll("image BAD", BAD, x.image(-1), x.image(2), x.restore(-1), x.restore(2), x.image(LEAST), x.restore(MOST));
        x.sheet();
        due("image anew", x.image(0), 1);
        x.cut(1);
        x.restore(0);
        Due.due("as kept anew", cells(x), rich);
    }

    // 36
    private static void count() {
        SailingDirections x = Due.told(RICH);
        Due.tell(x, "abc");
        x.ship(0, 1);
        int[] want = {7, 4, 3, 5, 3, 1, 3};
        for (int what = 0; what <= 6; what++) {
            due("count(" + what + ")", x.count(what), want[what]);
        }
        dueAll("count BAD", BAD, x.count(-1), x.count(7), x.count(LEAST), x.count(MOST));
    }
}
