/** What the tests share: counting wrong answers, telling texts, reading logs. */
final class Due {
    private static int wrong = 0;
    private static int asked = 0;

    private Due() {
    }

    static void due(String call, long got, long want) {
        asked++;
        if (got != want) {
            wrong++;
            System.out.println(call + " answered " + got + ", due is " + want);
        }
    }

    static void due(String call, String got, String want) {
        asked++;
        if (!got.equals(want)) {
            wrong++;
            System.out.println(call + " answered " + got + ", due is " + want);
        }
    }

    static void fail(String what) {
        asked++;
        wrong++;
        System.out.println(what);
    }

    static int wrongSoFar() {
        return wrong;
    }

    static void finish(String test) {
        System.out.println(test + ": " + asked + " asked, " + wrong + " wrong");
        if (wrong != 0 || asked == 0) {
            System.exit(1);
        }
    }

    static void tell(SailingDirections x, String text) {
        for (int i = 0; i < text.length(); i++) {
            x.feed(text.charAt(i));
        }
    }

    static int read(SailingDirections x, String text) {
        tell(x, text);
        return x.sheet();
    }

    static SailingDirections told(String text) {
        SailingDirections x = new SailingDirections();
        if (read(x, text) < 1) {
            fail("this text should be a sheet: " + text);
        }
        return x;
    }

    static int courseNamed(SailingDirections x, String name) {
        tell(x, name);
        return x.course();
    }

    static String log(SailingDirections x, int t) {
        StringBuilder text = new StringBuilder();
        for (int i = 0; i < 100 && x.sign(t, i) != SailingDirections.NONE; i++) {
            text.append((char) x.sign(t, i));
        }
        return text.toString();
    }

    static String causes(SailingDirections x, int t) {
        StringBuilder text = new StringBuilder();
        for (int i = 0; i < 20 && x.why(t, i, 0) != SailingDirections.NONE; i++) {
            text.append(i > 0 ? " " : "").append(x.why(t, i, 0)).append(':').append(x.why(t, i, 1));
        }
        return text.toString();
    }
}
