import java.util.ArrayDeque;
import java.util.ArrayList;
import java.util.Arrays;
import java.util.Deque;
import java.util.List;
import java.util.Set;
import java.util.TreeSet;

/**
 * The document once more, written for plainness and not for speed: lists, sets, real angles, and every
 * case tried where the class takes a shorter way. The tests hold the class's answers against it.
 */
final class Oracle {
    static final int NONE = -1000000, BAD = -1000001, STATE = -1000002, FULL = -1000003;
    static final List<String> NAMES = Arrays.asList(
        "n", "nne", "ne", "ene", "e", "ese", "se", "sse", "s", "ssw", "sw", "wsw", "w", "wnw", "nw", "nnw");

    static final class Model {
        int[] ship = new int[5];
        List<Integer> heights = new ArrayList<>();
        List<int[]> things = new ArrayList<>();
        List<int[]> legs = new ArrayList<>();

        Model copy() {
            Model m = new Model();
            m.ship = ship.clone();
            m.heights.addAll(heights);
            for (int[] thing : things) {
                m.things.add(thing.clone());
            }
            for (int[] leg : legs) {
                m.legs.add(leg.clone());
            }
            return m;
        }

        boolean isMark(int i) {
            return i >= 0 && i < things.size() && things.get(i)[0] <= 3;
        }
    }

    static final class FaultAt extends RuntimeException {
        private static final long serialVersionUID = 1L;
        final int number;
        final int place;

        FaultAt(int number, int place) {
            this.number = number;
            this.place = place;
        }
    }

    static final class Trip {
        List<int[]> track = new ArrayList<>();
        List<Integer> legMinutes = new ArrayList<>();
        List<int[]> causes = new ArrayList<>();
        List<Integer> keels = new ArrayList<>();
        int done;
        boolean arrives;

        int minutes() {
            return track.size() - 1;
        }

        int[] end() {
            return track.get(track.size() - 1);
        }
    }

    private final StringBuilder tape = new StringBuilder();
    private Model now = null;
    private final Model[] images = new Model[2];
    private final Deque<Model> acts = new ArrayDeque<>();
    private int fault = 0;

    // ---- what is told

    int feed(int letter) {
        if (letter < 0 || letter > 255) return BAD;
        if (tape.length() == 160) return FULL;
        tape.append((char) letter);
        return tape.length();
    }

    int sheet() {
        String text = tape.toString();
        tape.setLength(0);
        try {
            now = new Parser(text).parse();
        } catch (FaultAt f) {
            fault = f.number;
            return -1000100 - f.place;
        }
        acts.clear();
        return now.legs.size();
    }

    int fault() {
        return fault;
    }

    int course() {
        int found = NAMES.indexOf(tape.toString());
        tape.setLength(0);
        return found < 0 ? NONE : found;
    }

    int undo() {
        if (acts.isEmpty()) return STATE;
        now = acts.removeLast();
        return acts.size();
    }

    static final class Parser {
        final List<String> tokens = new ArrayList<>();
        final List<Integer> places = new ArrayList<>();
        int k = 0;

        Parser(String text) {
            for (int i = 0; i < text.length();) {
                int end = i + 1;
                if (Character.isDigit(text.charAt(i)) && text.charAt(i) < 128) {
                    while (end < text.length() && text.charAt(end) >= '0' && text.charAt(end) <= '9') end++;
                }
                tokens.add(text.substring(i, end));
                places.add(i);
                i = end;
            }
            tokens.add("");
            places.add(text.length());
        }

        FaultAt fault(int number) {
            return new FaultAt(number, places.get(k));
        }

        String peek() {
            return tokens.get(k);
        }

        void eat(String token) {
            if (!peek().equals(token)) throw fault(1);
            k++;
        }

        int number(int low, int high) {
            if (!peek().matches("[0-9]{1,2}")) throw fault(1);
            int v = Integer.parseInt(peek());
            if (v < low || v > high) throw fault(2);
            k++;
            return v;
        }

        Model parse() {
            Model m = new Model();
            eat("h");
            m.ship[0] = number(0, 20);
            eat(",");
            m.ship[1] = number(0, 60);
            eat(",");
            m.ship[2] = number(0, 60);
            eat(";");
            eat("t");
            m.heights.add(number(0, 20));
            while (m.heights.size() < 6 && peek().equals(",")) {
                eat(",");
                m.heights.add(number(0, 20));
            }
            eat(";");
            eat("z");
            m.ship[3] = number(0, 60);
            eat(",");
            m.ship[4] = number(0, 60);
            eat(";");
            while (peek().matches("[blusrk]")) {
                if (m.things.size() == 8) throw fault(3);
                int[] thing = new int[5];
                thing[0] = 1 + "blusrk".indexOf(peek());
                k++;
                thing[1] = number(0, 60);
                eat(",");
                thing[2] = number(0, 60);
                eat(",");
                thing[3] = number(0, 15);
                eat(",");
                thing[4] = number(0, 20);
                eat(";");
                m.things.add(thing);
            }
            do {
                if (peek().equals("g") && m.legs.size() == 6) throw fault(3);
                eat("g");
                m.legs.add(leg());
            } while (!peek().equals(""));
            return m;
        }

        int[] leg() {
            int course = number(0, 15);
            String sort = peek();
            if (!sort.matches("[maied]")) throw fault(1);
            k++;
            int[] leg = {course, "maied".indexOf(sort), 0, NONE};
            if (sort.equals("m")) {
                leg[2] = number(1, 60);
            } else if (sort.equals("d")) {
                leg[2] = number(0, 60);
            } else {
                leg[2] = number(0, 7);
            }
            if (sort.equals("i")) {
                eat(",");
                leg[3] = number(0, 7);
            }
            eat(";");
            return leg;
        }
    }

    // ---- what is done

    private boolean hasThing(int thing) {
        return now != null && thing >= 0 && thing < now.things.size();
    }

    private boolean hasLeg(int leg) {
        return now != null && leg >= 0 && leg < now.legs.size();
    }

    private static boolean in(int v, int low, int high) {
        return low <= v && v <= high;
    }

    private void act() {
        acts.addLast(now.copy());
        if (acts.size() > 20) acts.removeFirst();
    }

    int measure(int thing, int which, int v) {
        int[] most = {60, 60, 15, 20};
        if (!hasThing(thing) || !in(which, 0, 3) || !in(v, 0, most[which])) return BAD;
        act();
        int was = now.things.get(thing)[which + 1];
        now.things.get(thing)[which + 1] = v;
        return was;
    }

    int become(int thing, int sort) {
        if (!hasThing(thing) || !in(sort, 1, 6)) return BAD;
        int was = now.things.get(thing)[0];
        if (was == sort) return STATE;
        act();
        now.things.get(thing)[0] = sort;
        return was;
    }

    int ship(int which, int v) {
        if (now == null) return STATE;
        if (!in(which, 0, 4) || !in(v, 0, which == 0 ? 20 : 60)) return BAD;
        act();
        int was = now.ship[which];
        now.ship[which] = v;
        return was;
    }

    int tide(int k, int v) {
        if (now == null || !in(k, 0, now.heights.size() - 1) || !in(v, 0, 20)) return BAD;
        act();
        return now.heights.set(k, v);
    }

    int steer(int leg, int course) {
        if (!hasLeg(leg) || !in(course, 0, 15)) return BAD;
        act();
        int was = now.legs.get(leg)[0];
        now.legs.get(leg)[0] = course;
        return was;
    }

    private static boolean isUntil(int sort, int a, int b) {
        if (sort == 0) return in(a, 1, 60);
        if (sort == 1 || sort == 3) return in(a, 0, 7);
        if (sort == 2) return in(a, 0, 7) && in(b, 0, 7);
        return sort == 4 && in(a, 0, 60);
    }

    int until(int leg, int sort, int a, int b) {
        if (!hasLeg(leg) || !isUntil(sort, a, b)) return BAD;
        act();
        int[] it = now.legs.get(leg);
        int was = it[1];
        now.legs.set(leg, new int[] {it[0], sort, a, sort == 2 ? b : NONE});
        return was;
    }

    int add(int place, int course, int sort, int a, int b) {
        if (now == null) return STATE;
        if (!in(place, 0, now.legs.size()) || !in(course, 0, 15) || !isUntil(sort, a, b)) return BAD;
        if (now.legs.size() == 6) return FULL;
        act();
        now.legs.add(place, new int[] {course, sort, a, sort == 2 ? b : NONE});
        return now.legs.size();
    }

    int cut(int leg) {
        if (!hasLeg(leg)) return BAD;
        if (now.legs.size() == 1) return STATE;
        act();
        now.legs.remove(leg);
        return now.legs.size();
    }

    int thing(int thing, int what) {
        return !hasThing(thing) || !in(what, 0, 4) ? BAD : now.things.get(thing)[what];
    }

    int leg(int leg, int what) {
        return !hasLeg(leg) || !in(what, 0, 3) ? BAD : now.legs.get(leg)[what];
    }

    // ---- places

    private static int heightAt(Model m, int minute) {
        int n = m.heights.size();
        int c = m.heights.get((minute / 10) % n);
        int d = m.heights.get((minute / 10 + 1) % n);
        return c + ((d - c) * (minute % 10)) / 10;
    }

    private static boolean inChart(int x, int y) {
        return in(x, 0, 60) && in(y, 0, 60);
    }

    private static boolean liesIn(int[] s, int x, int y) {
        if (s[0] < 4) return false;
        if (s[0] == 6) return x >= s[1] - s[3] && x <= s[1] + s[3] && y >= s[2] - s[3] && y <= s[2] + s[3];
        return Math.hypot(x - s[1], y - s[2]) <= s[3] + 1e-9;
    }

    private static int[] charted(Model m, int x, int y) {
        int[] best = {40, NONE};
        for (int i = m.things.size() - 1; i >= 0; i--) {
            int[] s = m.things.get(i);
            int depth = s[0] == 5 ? 0 - s[4] : s[4];
            if (liesIn(s, x, y) && depth <= best[0]) best = new int[] {depth, i};
        }
        return best;
    }

    private static int[] step(int course) {
        int[] step = new int[2];
        for (char c : NAMES.get(course).toCharArray()) {
            step[0] += c == 'e' ? 1 : c == 'w' ? -1 : 0;
            step[1] += c == 'n' ? 1 : c == 's' ? -1 : 0;
        }
        return step;
    }

    private static double bearing(int[] v) {
        double b = Math.atan2(v[0], v[1]);
        return b < 0 ? b + 2 * Math.PI : b;
    }

    private static double turn(double from, double to) {
        double t = to - from;
        while (t < -1e-9) t += 2 * Math.PI;
        while (t >= 2 * Math.PI - 1e-9) t -= 2 * Math.PI;
        return t;
    }

    private static int[] place(Model m, int thing, int minute) {
        int[] s = m.things.get(thing);
        return new int[] {s[1] + (s[0] == 3 ? heightAt(m, minute) / 4 : 0), s[2]};
    }

    private static boolean isSeen(Model m, Set<Integer> out, int thing, int x, int y, int minute) {
        if (out.contains(thing)) return false;
        int[] s = m.things.get(thing);
        int[] at = place(m, thing, minute);
        double far = Math.hypot(x - at[0], y - at[1]);
        if (s[0] == 1) return far <= 20 + 1e-9;
        if (s[0] == 3) return far <= 10 + 1e-9;
        int to = s[4] % 16;
        if (s[3] == to || far == 0) return true;
        double from = bearing(step(s[3]));
        return turn(from, bearing(new int[] {x - at[0], y - at[1]})) < turn(from, bearing(step(to))) - 1e-9;
    }

    int height(int m) {
        if (now == null) return STATE;
        return in(m, 0, 9999) ? heightAt(now, m) : BAD;
    }

    int water(int x, int y, int what) {
        if (now == null) return STATE;
        return inChart(x, y) && in(what, 0, 1) ? charted(now, x, y)[what] : BAD;
    }

    int mark(int thing, int m, int what) {
        if (!hasThing(thing) || !in(m, 0, 9999) || !in(what, 0, 1)) return BAD;
        return now.isMark(thing) ? place(now, thing, m)[what] : STATE;
    }

    int seen(int thing, int x, int y, int m) {
        if (!hasThing(thing) || !inChart(x, y) || !in(m, 0, 9999)) return BAD;
        if (!now.isMark(thing)) return STATE;
        return isSeen(now, new TreeSet<>(), thing, x, y, m) ? 1 : 0;
    }

    private static double far(int[] a, int[] b, double x, double y) {
        double east = b[1] - a[1];
        double north = b[2] - a[2];
        return (east * (y - a[2]) - north * (x - a[1])) / Math.hypot(east, north);
    }

    int line(int a, int b, int x, int y) {
        if (!hasThing(a) || !hasThing(b) || a == b || !inChart(x, y)) return BAD;
        int[] from = now.things.get(a);
        int[] to = now.things.get(b);
        if (from[1] == to[1] && from[2] == to[2]) return STATE;
        double far = far(from, to, x, y);
        return far > 1e-9 ? 1 : far < -1e-9 ? -1 : 0;
    }

    int lines(int a, int b, int what) {
        if (!hasThing(a) || !hasThing(b) || a == b || !in(what, 0, 2)) return BAD;
        int[] from = now.things.get(a);
        int[] to = now.things.get(b);
        if (from[1] == to[1] && from[2] == to[2]) return STATE;
        int[] sides = new int[3];
        for (int i = 0; i < now.things.size(); i++) {
            int[] s = now.things.get(i);
            if (s[0] < 4) continue;
            double least = far(from, to, s[1], s[2]) - s[3];
            double most = far(from, to, s[1], s[2]) + s[3];
            if (s[0] == 6) {
                least = 1e9;
                most = -1e9;
                for (int corner = 0; corner < 4; corner++) {
                    int x = s[1] + (corner % 2 == 0 ? s[3] : -s[3]);
                    int y = s[2] + (corner / 2 == 0 ? s[3] : -s[3]);
                    least = Math.min(least, far(from, to, x, y));
                    most = Math.max(most, far(from, to, x, y));
                }
            }
            sides[least > 1e-9 ? 0 : most < -1e-9 ? 1 : 2] |= 1 << i;
        }
        return sides[what];
    }

    // ---- voyages

    private static long lineSign(Model m, int t, int u, int[] at, int minute) {
        int[] p = place(m, t, minute);
        int[] q = place(m, u, minute);
        return Integer.signum((p[0] - at[0]) * (q[1] - at[1]) - (p[1] - at[1]) * (q[0] - at[0]));
    }

    private static boolean isMistaken(Model m, int sort, int thing) {
        if (!m.isMark(thing)) return true;
        return sort == 3 && m.things.get(thing)[0] != 2;
    }

    static Trip sailOut(Model m, int start, Set<Integer> out) {
        Trip trip = new Trip();
        int[] at = {m.ship[1], m.ship[2], NONE};
        trip.track.add(at);
        for (int leg = 0; leg < m.legs.size(); leg++) {
            int[] it = m.legs.get(leg);
            trip.legMinutes.add(0);
            int[] awaited = it[1] == 2 ? new int[] {it[2], it[3]}
                : it[1] == 1 || it[1] == 3 ? new int[] {it[2]} : new int[0];
            for (int thing : awaited) {
                if (isMistaken(m, it[1], thing)) {
                    trip.causes.add(new int[] {1, leg});
                    trip.causes.add(new int[] {9, thing});
                    return trip;
                }
            }
            if (!sailLeg(m, start, out, trip, leg, awaited)) {
                return trip;
            }
            trip.done++;
        }
        int[] end = trip.end();
        int square = (end[0] - m.ship[3]) * (end[0] - m.ship[3]) + (end[1] - m.ship[4]) * (end[1] - m.ship[4]);
        if (square <= 9) {
            trip.arrives = true;
        } else {
            trip.causes.add(new int[] {1, m.legs.size()});
            trip.causes.add(new int[] {10, square});
        }
        return trip;
    }

    private static boolean sailLeg(Model m, int start, Set<Integer> out, Trip trip, int leg, int[] awaited) {
        int[] it = m.legs.get(leg);
        int[] step = step(it[0]);
        int[] first = trip.end();
        int minute0 = start + trip.minutes();
        boolean wasSeen = it[1] == 3 && isSeen(m, out, it[2], first[0], first[1], minute0);
        long was = it[1] == 2 ? lineSign(m, it[2], it[3], first, minute0) : 0;
        for (int n = 1; ; n++) {
            int[] at = {trip.end()[0] + step[0], trip.end()[1] + step[1], leg};
            trip.track.add(at);
            trip.legMinutes.set(leg, n);
            int minute = start + trip.minutes();
            List<int[]> why = new ArrayList<>();
            if (!inChart(at[0], at[1])) {
                why.add(new int[] {3, at[0] < 0 ? 0 : at[0] > 60 ? 1 : at[1] < 0 ? 2 : 3});
            } else {
                int[] ground = charted(m, at[0], at[1]);
                int water = ground[0] + heightAt(m, minute);
                trip.keels.add(water - m.ship[0]);
                if (water < m.ship[0]) {
                    int best = ground[0] + m.heights.stream().max(Integer::compare).get();
                    why.add(new int[] {4, ground[1]});
                    why.add(best >= m.ship[0] ? new int[] {6, m.ship[0] - water} : new int[] {7, m.ship[0] - best});
                } else if (hasCome(m, out, it, at, n, minute, water, wasSeen, was)) {
                    return true;
                } else if (n == 60) {
                    why.add(new int[] {5, it[1]});
                    for (int thing : awaited) {
                        if (it[1] != 3 && why.size() == 1 && !isSeen(m, out, thing, at[0], at[1], minute)) {
                            why.add(new int[] {8, thing});
                        }
                    }
                }
            }
            if (!why.isEmpty()) {
                trip.causes.add(new int[] {1, leg});
                trip.causes.add(new int[] {2, trip.minutes()});
                trip.causes.addAll(why);
                return false;
            }
        }
    }

    private static boolean hasCome(Model m, Set<Integer> out, int[] leg, int[] at, int n, int minute, int water,
            boolean wasSeen, long was) {
        if (leg[1] == 0) return n == leg[2];
        if (leg[1] == 4) return water <= leg[2];
        boolean sees = isSeen(m, out, leg[2], at[0], at[1], minute);
        if (leg[1] == 3) return sees != wasSeen;
        if (leg[1] == 1) {
            int[] p = place(m, leg[2], minute);
            int[] s = step(leg[0]);
            return sees && s[0] * (p[0] - at[0]) + s[1] * (p[1] - at[1]) <= 0;
        }
        long is = lineSign(m, leg[2], leg[3], at, minute);
        return sees && isSeen(m, out, leg[3], at[0], at[1], minute) && (is == 0 || is * was < 0);
    }

    private static String logOf(Model m, Trip trip) {
        StringBuilder log = new StringBuilder();
        for (int leg = 0; leg < trip.legMinutes.size(); leg++) {
            log.append(NAMES.get(m.legs.get(leg)[0]).toUpperCase()).append(trip.legMinutes.get(leg)).append(';');
        }
        log.append(trip.arrives ? '.' : '!');
        for (int i = 0; i < trip.causes.size(); i++) {
            log.append(i > 0 ? "," : "").append(trip.causes.get(i)[0]);
        }
        return log.toString();
    }

    private Trip plain(int t) {
        return sailOut(now, t, new TreeSet<>());
    }

    int sail(int t, int what) {
        if (now == null) return STATE;
        if (!in(t, 0, 99) || !in(what, 0, 6)) return BAD;
        Trip trip = plain(t);
        if (what == 0) return trip.minutes();
        if (what <= 2) return trip.end()[what - 1];
        if (what == 3) return trip.done;
        if (what == 4) return trip.arrives ? 1 : 0;
        if (trip.keels.isEmpty()) return NONE;
        int least = trip.keels.stream().min(Integer::compare).get();
        return what == 5 ? least : trip.keels.indexOf(least) + 1;
    }

    int track(int t, int k, int what) {
        if (now == null) return STATE;
        if (!in(t, 0, 99) || k < 0 || !in(what, 0, 2)) return BAD;
        Trip trip = plain(t);
        return k > trip.minutes() ? NONE : trip.track.get(k)[what];
    }

    int why(int t, int i, int what) {
        if (now == null) return STATE;
        if (!in(t, 0, 99) || i < 0 || !in(what, 0, 1)) return BAD;
        Trip trip = plain(t);
        return i >= trip.causes.size() ? NONE : trip.causes.get(i)[what];
    }

    int sign(int t, int i) {
        if (now == null) return STATE;
        if (!in(t, 0, 99) || i < 0) return BAD;
        String log = logOf(now, plain(t));
        return i >= log.length() ? NONE : log.charAt(i);
    }

    // ---- foretold

    int times() {
        if (now == null) return STATE;
        int bits = 0;
        for (int t = 0; t < 30; t++) {
            bits |= plain(t).arrives ? 1 << t : 0;
        }
        return bits;
    }

    int deepest(int t) {
        if (now == null) return STATE;
        if (!in(t, 0, 99)) return BAD;
        for (int d = 20; d >= 0; d--) {
            Model m = now.copy();
            m.ship[0] = d;
            if (sailOut(m, t, new TreeSet<>()).arrives) return d;
        }
        return NONE;
    }

    int courses(int leg, int t) {
        if (!hasLeg(leg) || !in(t, 0, 99)) return BAD;
        int bits = 0;
        for (int c = 0; c < 16; c++) {
            Model m = now.copy();
            m.legs.get(leg)[0] = c;
            bits |= sailOut(m, t, new TreeSet<>()).arrives ? 1 << c : 0;
        }
        return bits;
    }

    int needed(int t) {
        if (now == null) return STATE;
        if (!in(t, 0, 99)) return BAD;
        Trip trip = plain(t);
        int bits = 0;
        for (int i = 0; i < now.things.size(); i++) {
            if (!now.isMark(i)) continue;
            Trip other = sailOut(now, t, Set.of(i));
            boolean same = other.arrives == trip.arrives && other.minutes() == trip.minutes()
                && other.end()[0] == trip.end()[0] && other.end()[1] == trip.end()[1];
            bits |= same ? 0 : 1 << i;
        }
        return bits;
    }

    int near(int thing, int t) {
        if (!hasThing(thing) || !in(t, 0, 99)) return BAD;
        int[] s = now.things.get(thing);
        return plain(t).track.stream().mapToInt(p -> (p[0] - s[1]) * (p[0] - s[1]) + (p[1] - s[2]) * (p[1] - s[2]))
            .min().getAsInt();
    }

    private static long gcd(long a, long b) {
        return b == 0 ? a : gcd(b, a % b);
    }

    long out(int t, int p, int what) {
        if (now == null) return STATE;
        if (!in(t, 0, 99) || !in(p, 0, 10) || !in(what, 0, 1)) return BAD;
        Set<Integer> awaited = new TreeSet<>();
        for (int[] leg : now.legs) {
            if (leg[1] >= 1 && leg[1] <= 3 && now.isMark(leg[2])) awaited.add(leg[2]);
            if (leg[1] == 2 && now.isMark(leg[3])) awaited.add(leg[3]);
        }
        if (awaited.size() > 6) return FULL;
        List<Integer> marks = new ArrayList<>(awaited);
        long above = 0;
        long below = 1;
        for (int i = 0; i < marks.size(); i++) below *= 10;
        for (int bits = 0; bits < 1 << marks.size(); bits++) {
            long weight = 1;
            Set<Integer> gone = new TreeSet<>();
            for (int i = 0; i < marks.size(); i++) {
                boolean isGone = (bits >> i & 1) == 1;
                weight *= isGone ? p : 10 - p;
                if (isGone) gone.add(marks.get(i));
            }
            if (sailOut(now, t, gone).arrives) above += weight;
        }
        long shared = gcd(below, above);
        return what == 0 ? above / shared : below / shared;
    }

    int drawn(int n, int seed, int what) {
        if (now == null) return STATE;
        if (!in(n, 0, 12) || !in(seed, 1, 999999) || !in(what, 0, 1)) return BAD;
        long x = seed;
        int arrivals = 0;
        int minutes = 0;
        for (int i = 0; i < n; i++) {
            x = (x * 16807) % 2147483647L;
            Model m = now.copy();
            m.ship[0] = (int) ((x / 128) % 21);
            Trip trip = sailOut(m, (int) (x % 100), new TreeSet<>());
            arrivals += trip.arrives ? 1 : 0;
            minutes += trip.minutes();
        }
        return what == 0 ? arrivals : minutes;
    }

    int image(int k) {
        if (!in(k, 0, 1)) return BAD;
        if (now == null) return STATE;
        images[k] = now.copy();
        return 1;
    }

    int restore(int k) {
        if (!in(k, 0, 1)) return BAD;
        if (images[k] == null) return STATE;
        now = images[k].copy();
        acts.clear();
        return 1;
    }

    int count(int what) {
        if (what == 5) return acts.size();
        if (what == 6) return tape.length();
        if (!in(what, 0, 6)) return BAD;
        if (now == null) return 0;
        int marks = (int) now.things.stream().filter(s -> s[0] <= 3).count();
        int[] counts = {now.things.size(), marks, now.things.size() - marks, now.legs.size(), now.heights.size()};
        return counts[what];
    }
}
