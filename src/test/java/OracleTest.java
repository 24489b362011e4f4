import java.util.Random;

/** Random runs of calls, the same on the class and on the oracle: every answer must be the same. */
public final class OracleTest {
    private static final int CALLS_MOST = 512;
    private static final int[] EXTREMES = {Integer.MIN_VALUE, -1000000, -1, 61, 100, 1000, 10000, Integer.MAX_VALUE};

    private final Random random;
    private final SailingDirections x = new SailingDirections();
    private final Oracle o = new Oracle();
    private final StringBuilder story = new StringBuilder();
    private int calls = 0;

    private OracleTest(long seed) {
        random = new Random(seed);
    }

    public static void main(String[] args) {
        int runs = args.length > 0 ? Integer.parseInt(args[0]) : 8000;
        long first = args.length > 1 ? Long.parseLong(args[1]) : 1;
        for (int run = 0; run < runs && Due.wrongSoFar() < 5; run++) {
            new OracleTest(first + run).runOnce(first + run);
        }
        Due.finish("OracleTest");
    }

    private void same(String call, long got, long want) {
        calls++;
        story.append(call).append('=').append(want).append(' ');
        if (got != want) {
            Due.fail("behind " + story);
        }
        Due.due(call, got, want);
    }

    private void runOnce(long seed) {
        story.append("[seed ").append(seed).append("] ");
        while (calls < CALLS_MOST - 170) {
            tellSheet();
            bringHarbour();
            int more = 10 + random.nextInt(250);
            for (int i = 0; i < more && calls < CALLS_MOST - 170 && Due.wrongSoFar() == 0; i++) {
                callAny();
            }
            if (Due.wrongSoFar() > 0) {
                return;
            }
        }
    }

    /** Between low and high, but now and then just beside or far off. */
    private int pick(int low, int high) {
        int dice = random.nextInt(60);
        if (dice == 0) return low - 1;
        if (dice == 1) return high + 1;
        if (dice == 2) return EXTREMES[random.nextInt(EXTREMES.length)];
        if (dice < 8) return low;
        if (dice < 14) return high;
        return low + random.nextInt(high - low + 1);
    }

    private int number(int low, int high) {
        return random.nextInt(150) == 0 ? high + 1 + random.nextInt(45) : low + random.nextInt(high - low + 1);
    }

    /** In a crowd all lies near the middle, so that places meet, stand in line and touch more often. */
    private int place(boolean isCrowd) {
        return isCrowd ? 27 + random.nextInt(7) : number(0, 60);
    }

    private String sheetText() {
        boolean isCrowd = random.nextInt(3) == 0;
        StringBuilder s = new StringBuilder();
        s.append('h').append(number(0, 12)).append(',').append(place(isCrowd)).append(',').append(place(isCrowd));
        s.append(";t").append(number(0, 20));
        for (int more = random.nextInt(random.nextInt(10) == 0 ? 7 : 6); more > 0; more--) {
            s.append(',').append(number(0, 20));
        }
        s.append(";z").append(number(0, 60)).append(',').append(number(0, 60)).append(';');
        int things = random.nextInt(random.nextInt(10) == 0 ? 10 : 9);
        for (int i = 0; i < things; i++) {
            s.append("bbblllluuusrk".charAt(random.nextInt(13)));
            boolean isShort = !isCrowd && random.nextInt(3) > 0;
            s.append(isShort ? number(0, 9) : place(isCrowd)).append(',').append(place(isCrowd)).append(',');
            s.append(number(0, isCrowd ? 3 : 15)).append(',').append(number(0, 20)).append(';');
        }
        int legs = 1 + random.nextInt(random.nextInt(10) == 0 ? 7 : 5);
        int top = Math.max(0, Math.min(7, things - (random.nextInt(8) == 0 ? 0 : 1)));
        for (int i = 0; i < legs; i++) {
            s.append('g').append(number(0, 15));
            switch (random.nextInt(6)) {
                case 0: s.append('m').append(number(1, random.nextInt(3) == 0 ? 60 : 12)); break;
                case 1: s.append('a').append(number(0, top)); break;
                case 2: s.append('i').append(number(0, top)).append(',').append(number(0, top)); break;
                case 3: s.append('e').append(number(0, top)); break;
                case 4: s.append('d').append(number(0, 60)); break;
                default: s.append('m').append(number(1, 9)); break;
            }
            s.append(';');
        }
        return s.toString();
    }

    private String spoiled(String text) {
        StringBuilder s = new StringBuilder(text);
        int at = random.nextInt(s.length());
        String bytes = "0123456789,;htzblusrkgmaiedxN. \u00e9\u00ff\u0000";
        switch (random.nextInt(4)) {
            case 0: s.deleteCharAt(at); break;
            case 1: s.insert(at, bytes.charAt(random.nextInt(bytes.length()))); break;
            case 2: s.setCharAt(at, bytes.charAt(random.nextInt(bytes.length()))); break;
            default: s.setLength(at); break;
        }
        return s.toString();
    }

    private void tellSheet() {
        String text = sheetText();
        while (text.length() > 160 && random.nextInt(12) > 0) {
            text = sheetText();
        }
        if (random.nextInt(4) == 0) {
            text = spoiled(text);
        }
        for (int i = 0; i < text.length() && i < 163; i++) {
            same("feed(" + (int) text.charAt(i) + ")", x.feed(text.charAt(i)), o.feed(text.charAt(i)));
        }
        same("sheet()", x.sheet(), o.sheet());
        same("fault()", x.fault(), o.fault());
    }

    /** Puts the harbour where she comes, so that many voyages arrive. */
    private void bringHarbour() {
        int t = random.nextInt(100);
        int nearX = o.sail(t, 1) + random.nextInt(5) - 2;
        int nearY = o.sail(t, 2) + random.nextInt(5) - 2;
        same("ship(3)", x.ship(3, nearX), o.ship(3, nearX));
        same("ship(4)", x.ship(4, nearY), o.ship(4, nearY));
    }

    private void callAny() {
        switch (random.nextInt(6)) {
            case 0: callAct(); break;
            case 1: callPlace(); break;
            case 2: case 3: callVoyage(); break;
            case 4: callForetold(); break;
            default: callRest(); break;
        }
    }

    private void callAct() {
        int thing = pick(0, 7);
        int leg = pick(0, Math.max(0, o.count(3) - 1));
        int sort = pick(0, 4);
        int a = random.nextInt(4) == 0 ? pick(0, 60) : pick(0, 7);
        int b = pick(0, 7);
        int v;
        int which;
        switch (random.nextInt(10)) {
            case 0: case 1:
                which = pick(0, 3);
                v = pick(0, which == 2 ? 15 : which == 3 ? 20 : 60);
                same("measure(" + thing + "," + which + "," + v + ")", x.measure(thing, which, v), o.measure(thing, which, v));
                break;
            case 2:
                v = pick(1, 6);
                same("become(" + thing + "," + v + ")", x.become(thing, v), o.become(thing, v));
                break;
            case 3:
                which = pick(0, 4);
                v = pick(0, which == 0 ? 20 : 60);
                same("ship(" + which + "," + v + ")", x.ship(which, v), o.ship(which, v));
                break;
            case 4:
                which = pick(0, 5);
                v = pick(0, 20);
                same("tide(" + which + "," + v + ")", x.tide(which, v), o.tide(which, v));
                break;
            case 5:
                v = pick(0, 15);
                same("steer(" + leg + "," + v + ")", x.steer(leg, v), o.steer(leg, v));
                break;
            case 6:
                same("until(" + leg + "," + sort + "," + a + "," + b + ")", x.until(leg, sort, a, b), o.until(leg, sort, a, b));
                break;
            case 7:
                v = pick(0, 15);
                which = pick(0, Math.max(0, o.count(3)));
                same("add(" + which + "," + v + "," + sort + "," + a + "," + b + ")",
                    x.add(which, v, sort, a, b), o.add(which, v, sort, a, b));
                break;
            case 8:
                same("cut(" + leg + ")", x.cut(leg), o.cut(leg));
                break;
            default:
                same("undo()", x.undo(), o.undo());
                break;
        }
    }

    private void callPlace() {
        int thing = pick(0, Math.max(0, o.count(0) - 1));
        int other = pick(0, Math.max(0, o.count(0) - 1));
        int px = pick(0, 60);
        int py = pick(0, 60);
        int m = random.nextInt(3) == 0 ? pick(0, 9999) : pick(0, 99);
        int what;
        switch (random.nextInt(8)) {
            case 0:
                what = pick(0, 4);
                same("thing(" + thing + "," + what + ")", x.thing(thing, what), o.thing(thing, what));
                break;
            case 1:
                what = pick(0, 3);
                int leg = pick(0, Math.max(0, o.count(3) - 1));
                same("leg(" + leg + "," + what + ")", x.leg(leg, what), o.leg(leg, what));
                break;
            case 2:
                same("height(" + m + ")", x.height(m), o.height(m));
                break;
            case 3:
                what = pick(0, 1);
                same("water(" + px + "," + py + "," + what + ")", x.water(px, py, what), o.water(px, py, what));
                break;
            case 4:
                what = pick(0, 1);
                same("mark(" + thing + "," + m + "," + what + ")", x.mark(thing, m, what), o.mark(thing, m, what));
                break;
            case 5:
                same("seen(" + thing + "," + px + "," + py + "," + m + ")", x.seen(thing, px, py, m), o.seen(thing, px, py, m));
                break;
            case 6:
                same("line(" + thing + "," + other + "," + px + "," + py + ")",
                    x.line(thing, other, px, py), o.line(thing, other, px, py));
                break;
            default:
                what = pick(0, 2);
                same("lines(" + thing + "," + other + "," + what + ")", x.lines(thing, other, what), o.lines(thing, other, what));
                break;
        }
    }

    private void callVoyage() {
        int t = pick(0, 99);
        int what;
        int k;
        switch (random.nextInt(4)) {
            case 0:
                what = pick(0, 6);
                same("sail(" + t + "," + what + ")", x.sail(t, what), o.sail(t, what));
                break;
            case 1:
                what = pick(0, 2);
                k = random.nextInt(6) == 0 ? pick(0, 361) : pick(0, Math.max(0, o.sail(0, 0)));
                same("track(" + t + "," + k + "," + what + ")", x.track(t, k, what), o.track(t, k, what));
                break;
            case 2:
                what = pick(0, 1);
                k = pick(0, 4);
                same("why(" + t + "," + k + "," + what + ")", x.why(t, k, what), o.why(t, k, what));
                break;
            default:
                k = pick(0, 30);
                same("sign(" + t + "," + k + ")", x.sign(t, k), o.sign(t, k));
                break;
        }
    }

    private void callForetold() {
        int t = pick(0, 99);
        int what = pick(0, 1);
        int v;
        switch (random.nextInt(7)) {
            case 0:
                same("times()", x.times(), o.times());
                break;
            case 1:
                same("deepest(" + t + ")", x.deepest(t), o.deepest(t));
                break;
            case 2:
                v = pick(0, Math.max(0, o.count(3) - 1));
                same("courses(" + v + "," + t + ")", x.courses(v, t), o.courses(v, t));
                break;
            case 3:
                same("needed(" + t + ")", x.needed(t), o.needed(t));
                break;
            case 4:
                v = pick(0, Math.max(0, o.count(0) - 1));
                same("near(" + v + "," + t + ")", x.near(v, t), o.near(v, t));
                break;
            case 5:
                v = pick(0, 10);
                same("out(" + t + "," + v + "," + what + ")", x.out(t, v, what), o.out(t, v, what));
                break;
            default:
                v = pick(1, 999999);
                int n = pick(0, 12);
                same("drawn(" + n + "," + v + "," + what + ")", x.drawn(n, v, what), o.drawn(n, v, what));
                break;
        }
    }

    private void callRest() {
        int k = pick(0, 1);
        switch (random.nextInt(8)) {
            case 0:
                same("image(" + k + ")", x.image(k), o.image(k));
                break;
            case 1:
                same("restore(" + k + ")", x.restore(k), o.restore(k));
                break;
            case 2: case 3:
                String name = random.nextInt(3) == 0 ? spoiled("nnww") : Oracle.NAMES.get(random.nextInt(16));
                for (int i = 0; i < name.length(); i++) {
                    same("feed(" + (int) name.charAt(i) + ")", x.feed(name.charAt(i)), o.feed(name.charAt(i)));
                }
                same("course()", x.course(), o.course());
                break;
            case 4:
                int letter = pick(0, 255);
                same("feed(" + letter + ")", x.feed(letter), o.feed(letter));
                break;
            case 5:
                same("fault()", x.fault(), o.fault());
                break;
            case 6:
                if (random.nextInt(6) == 0) {
                    same("sheet()", x.sheet(), o.sheet());
                }
                break;
            default:
                k = pick(0, 6);
                same("count(" + k + ")", x.count(k), o.count(k));
                break;
        }
    }
}
