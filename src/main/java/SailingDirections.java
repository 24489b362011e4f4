/**
 * Sailing directions: a sheet is told in a text, and the voyage that it tells of is made minute by minute.
 *
 * All rows are made with the object and used again by every call: no call makes an object of its own.
 */
public final class SailingDirections {
    public static final int NONE = -1000000, BAD = -1000001, STATE = -1000002, FULL = -1000003;

    private static final int FAULT_BASE = -1000100;
    private static final int BYTE_MOST = 255;
    private static final int MINUTE_MOST = 9999;
    private static final int START_MOST = 99;
    private static final int DRAWS_MOST = 12;
    private static final int SEED_MOST = 999999;
    private static final int AWAITED_MOST = 6;
    private static final int NO_LEG = -1;

    private final Tape tape;
    private final Sheet sheet;
    private final Reader reader;
    private final History history;
    private final Sheet image0;
    private final Sheet image1;
    private final Chart chart;
    private final Voyage voyage;
    private final Account account;
    private final Forecast forecast;
    private int latestFault;

    public SailingDirections() {
        tape = new Tape();
        sheet = new Sheet();
        reader = new Reader(tape);
        history = new History();
        image0 = new Sheet();
        image1 = new Sheet();
        chart = new Chart(sheet);
        voyage = new Voyage(sheet, chart);
        account = new Account(sheet, chart, voyage);
        forecast = new Forecast(sheet, chart, voyage);
        latestFault = 0;
    }

    // ---- what is told

    public int feed(int letter) {
        if (!isWithin(letter, 0, BYTE_MOST)) {
            return BAD;
        }
        if (tape.isFull()) {
            return FULL;
        }
        return tape.append(letter);
    }

    public int sheet() {
        boolean isRead = reader.readTape();
        tape.clear();
        if (!isRead) {
            latestFault = reader.faultNumber;
            return FAULT_BASE - reader.faultPlace;
        }
        sheet.copyFrom(reader.draft);
        history.forget();
        return sheet.legCount();
    }

    public int fault() {
        return latestFault;
    }

    public int course() {
        int found = NONE;
        for (int course = 0; course < Compass.COURSES; course++) {
            if (tape.holds(Compass.nameOf(course))) {
                found = course;
            }
        }
        tape.clear();
        return found;
    }

    public int undo() {
        if (history.size() == 0) {
            return STATE;
        }
        history.takeBack(sheet);
        return history.size();
    }

    // ---- what is done

    public int measure(int thing, int which, int v) {
        if (!sheet.hasThing(thing) || !isWithin(which, 0, 3) || !isWithin(v, 0, Sheet.measureMost(which))) {
            return BAD;
        }
        history.keep(sheet);
        return sheet.putThingCell(thing, Sheet.X + which, v);
    }

    public int become(int thing, int sort) {
        if (!sheet.hasThing(thing) || !isWithin(sort, Sheet.BEACON, Sheet.BANK)) {
            return BAD;
        }
        if (sheet.thingCell(thing, Sheet.SORT) == sort) {
            return STATE;
        }
        history.keep(sheet);
        return sheet.putThingCell(thing, Sheet.SORT, sort);
    }

    public int ship(int which, int v) {
        if (!sheet.isTold()) {
            return STATE;
        }
        if (!isWithin(which, Sheet.DRAUGHT, Sheet.HARBOUR_Y)) {
            return BAD;
        }
        if (!isWithin(v, 0, which == Sheet.DRAUGHT ? Sheet.DEPTH_MOST : Sheet.PLACE_MOST)) {
            return BAD;
        }
        history.keep(sheet);
        return sheet.putShipCell(which, v);
    }

    public int tide(int k, int v) {
        if (!isWithin(k, 0, sheet.heightCount() - 1) || !isWithin(v, 0, Sheet.DEPTH_MOST)) {
            return BAD;
        }
        history.keep(sheet);
        return sheet.putHeightCell(k, v);
    }

    public int steer(int leg, int course) {
        if (!sheet.hasLeg(leg) || !isCourse(course)) {
            return BAD;
        }
        history.keep(sheet);
        return sheet.putLegCell(leg, Sheet.COURSE, course);
    }

    public int until(int leg, int sort, int a, int b) {
        if (!sheet.hasLeg(leg) || !isUntil(sort, a, b)) {
            return BAD;
        }
        history.keep(sheet);
        return sheet.putUntil(leg, sort, a, b);
    }

    public int add(int place, int course, int sort, int a, int b) {
        if (!sheet.isTold()) {
            return STATE;
        }
        if (!isWithin(place, 0, sheet.legCount()) || !isCourse(course) || !isUntil(sort, a, b)) {
            return BAD;
        }
        if (sheet.legCount() == Sheet.LEGS_MOST) {
            return FULL;
        }
        history.keep(sheet);
        sheet.openLeg(place);
        sheet.putLegCell(place, Sheet.COURSE, course);
        sheet.putUntil(place, sort, a, b);
        return sheet.legCount();
    }

    public int cut(int leg) {
        if (!sheet.hasLeg(leg)) {
            return BAD;
        }
        if (sheet.legCount() == 1) {
            return STATE;
        }
        history.keep(sheet);
        sheet.closeLeg(leg);
        return sheet.legCount();
    }

    public int thing(int thing, int what) {
        if (!sheet.hasThing(thing) || !isWithin(what, Sheet.SORT, Sheet.B)) {
            return BAD;
        }
        return sheet.thingCell(thing, what);
    }

    public int leg(int leg, int what) {
        if (!sheet.hasLeg(leg) || !isWithin(what, Sheet.COURSE, Sheet.SECOND)) {
            return BAD;
        }
        return sheet.legCell(leg, what);
    }

    // ---- places

    public int height(int m) {
        if (!sheet.isTold()) {
            return STATE;
        }
        if (!isWithin(m, 0, MINUTE_MOST)) {
            return BAD;
        }
        return chart.heightAt(m);
    }

    public int water(int x, int y, int what) {
        if (!sheet.isTold()) {
            return STATE;
        }
        if (!Chart.isCharted(x, y) || !isWithin(what, 0, 1)) {
            return BAD;
        }
        return what == 0 ? chart.depthAt(x, y) : chart.firstShoalAt(x, y);
    }

    public int mark(int thing, int m, int what) {
        if (!sheet.hasThing(thing) || !isWithin(m, 0, MINUTE_MOST) || !isWithin(what, 0, 1)) {
            return BAD;
        }
        if (!sheet.isMark(thing)) {
            return STATE;
        }
        return what == 0 ? chart.markX(thing, chart.heightAt(m)) : sheet.thingCell(thing, Sheet.Y);
    }

    public int seen(int thing, int x, int y, int m) {
        if (!sheet.hasThing(thing) || !Chart.isCharted(x, y) || !isWithin(m, 0, MINUTE_MOST)) {
            return BAD;
        }
        if (!sheet.isMark(thing)) {
            return STATE;
        }
        return chart.isInSight(thing, x, y, chart.heightAt(m), 0) ? 1 : 0;
    }

    public int line(int a, int b, int x, int y) {
        if (!isPair(a, b) || !Chart.isCharted(x, y)) {
            return BAD;
        }
        if (chart.isOnePlace(a, b)) {
            return STATE;
        }
        return Integer.signum(chart.leftOfLine(a, b, x, y));
    }

    public int lines(int a, int b, int what) {
        if (!isPair(a, b) || !isWithin(what, 0, 2)) {
            return BAD;
        }
        if (chart.isOnePlace(a, b)) {
            return STATE;
        }
        int side = what == 0 ? 1 : what == 1 ? -1 : 0;
        return chart.shoalsOnSide(a, b, side);
    }

    // ---- voyages

    public int sail(int t, int what) {
        if (!sheet.isTold()) {
            return STATE;
        }
        if (!isStart(t) || !isWithin(what, 0, 6)) {
            return BAD;
        }
        makeVoyage(t);
        switch (what) {
            case 0: return voyage.minutes;
            case 1: return voyage.x;
            case 2: return voyage.y;
            case 3: return voyage.done;
            case 4: return voyage.arrives() ? 1 : 0;
            case 5: return voyage.keelLeast;
            default: return voyage.keelMinute;
        }
    }

    public int track(int t, int k, int what) {
        if (!sheet.isTold()) {
            return STATE;
        }
        if (!isStart(t) || k < 0 || !isWithin(what, 0, 2)) {
            return BAD;
        }
        makeVoyage(t);
        return voyage.trackCell(k, what);
    }

    public int why(int t, int i, int what) {
        if (!sheet.isTold()) {
            return STATE;
        }
        if (!isStart(t) || i < 0 || !isWithin(what, 0, 1)) {
            return BAD;
        }
        makeVoyage(t);
        account.findCauses();
        return what == 0 ? account.kindOf(i) : account.numberOf(i);
    }

    public int sign(int t, int i) {
        if (!sheet.isTold()) {
            return STATE;
        }
        if (!isStart(t) || i < 0) {
            return BAD;
        }
        makeVoyage(t);
        account.findCauses();
        account.writeLog();
        return account.signAt(i);
    }

    // ---- foretold

    public int times() {
        if (!sheet.isTold()) {
            return STATE;
        }
        return forecast.startsThatArrive();
    }

    public int deepest(int t) {
        if (!sheet.isTold()) {
            return STATE;
        }
        if (!isStart(t)) {
            return BAD;
        }
        return forecast.greatestDraught(t);
    }

    public int courses(int leg, int t) {
        if (!sheet.hasLeg(leg) || !isStart(t)) {
            return BAD;
        }
        return forecast.coursesThatArrive(leg, t);
    }

    public int needed(int t) {
        if (!sheet.isTold()) {
            return STATE;
        }
        if (!isStart(t)) {
            return BAD;
        }
        return forecast.marksThatMatter(t);
    }

    public int near(int thing, int t) {
        if (!sheet.hasThing(thing) || !isStart(t)) {
            return BAD;
        }
        return forecast.leastSquare(thing, t);
    }

    public long out(int t, int p, int what) {
        if (!sheet.isTold()) {
            return STATE;
        }
        if (!isStart(t) || !isWithin(p, 0, Forecast.CASES) || !isWithin(what, 0, 1)) {
            return BAD;
        }
        if (Integer.bitCount(forecast.marksAwaited()) > AWAITED_MOST) {
            return FULL;
        }
        forecast.weighArrival(t, p);
        return what == 0 ? forecast.above : forecast.below;
    }

    public int drawn(int n, int seed, int what) {
        if (!sheet.isTold()) {
            return STATE;
        }
        if (!isWithin(n, 0, DRAWS_MOST) || !isWithin(seed, 1, SEED_MOST) || !isWithin(what, 0, 1)) {
            return BAD;
        }
        forecast.drawVoyages(n, seed);
        return what == 0 ? forecast.arrivals : forecast.minutesOfAll;
    }

    public int image(int k) {
        if (!isWithin(k, 0, 1)) {
            return BAD;
        }
        if (!sheet.isTold()) {
            return STATE;
        }
        imageOf(k).copyFrom(sheet);
        return 1;
    }

    public int restore(int k) {
        if (!isWithin(k, 0, 1)) {
            return BAD;
        }
        if (!imageOf(k).isTold()) {
            return STATE;
        }
        sheet.copyFrom(imageOf(k));
        history.forget();
        return 1;
    }

    public int count(int what) {
        switch (what) {
            case 0: return sheet.thingCount();
            case 1: return sheet.markCount();
            case 2: return sheet.thingCount() - sheet.markCount();
            case 3: return sheet.legCount();
            case 4: return sheet.heightCount();
            case 5: return history.size();
            case 6: return tape.size();
            default: return BAD;
        }
    }

    private void makeVoyage(int t) {
        voyage.make(t, sheet.shipCell(Sheet.DRAUGHT), 0, NO_LEG, 0);
    }

    private Sheet imageOf(int k) {
        return k == 0 ? image0 : image1;
    }

    private boolean isPair(int a, int b) {
        return sheet.hasThing(a) && sheet.hasThing(b) && a != b;
    }

    private static boolean isStart(int t) {
        return isWithin(t, 0, START_MOST);
    }

    private static boolean isCourse(int course) {
        return isWithin(course, 0, Compass.COURSES - 1);
    }

    private static boolean isUntil(int sort, int a, int b) {
        if (!isWithin(sort, Sheet.MINUTES, Sheet.DEPTH)) {
            return false;
        }
        if (!isWithin(a, Sheet.untilLeast(sort), Sheet.untilMost(sort))) {
            return false;
        }
        return sort != Sheet.IN_LINE || isWithin(b, 0, Sheet.THINGS_MOST - 1);
    }

    private static boolean isWithin(int v, int least, int most) {
        return v >= least && v <= most;
    }

    /** The bytes that have been fed and not been read yet. */
    private static final class Tape {
        static final int ROOM = 160;
        static final int END = -1;

        private final int[] bytes = new int[ROOM];
        private int size = 0;

        int size() {
            return size;
        }

        boolean isFull() {
            return size >= ROOM;
        }

        int append(int letter) {
            if (size < ROOM) {
                bytes[size] = letter;
                size++;
            }
            return size;
        }

        void clear() {
            size = 0;
        }

        int byteAt(int place) {
            return place >= 0 && place < size && place < ROOM ? bytes[place] : END;
        }

        boolean holds(String text) {
            if (text.length() != size) {
                return false;
            }
            for (int i = 0; i < text.length(); i++) {
                if (byteAt(i) != text.charAt(i)) {
                    return false;
                }
            }
            return true;
        }
    }

    /** The sixteen courses: their steps, their names, and the sectors between two of them. */
    private static final class Compass {
        static final int COURSES = 16;

        private static final int ROUND = COURSES - 1;
        private static final int HALF = COURSES / 2;
        private static final int[] EAST = {0, 1, 1, 2, 1, 2, 1, 1, 0, -1, -1, -2, -1, -2, -1, -1};
        private static final int[] NORTH = {1, 2, 1, 1, 0, -1, -1, -2, -1, -2, -1, -1, 0, 1, 1, 2};

        static int eastOf(int course) {
            return EAST[course & ROUND];
        }

        static int northOf(int course) {
            return NORTH[course & ROUND];
        }

        static String nameOf(int course) {
            switch (course & ROUND) {
                case 0: return "n";
                case 1: return "nne";
                case 2: return "ne";
                case 3: return "ene";
                case 4: return "e";
                case 5: return "ese";
                case 6: return "se";
                case 7: return "sse";
                case 8: return "s";
                case 9: return "ssw";
                case 10: return "sw";
                case 11: return "wsw";
                case 12: return "w";
                case 13: return "wnw";
                case 14: return "nw";
                default: return "nnw";
            }
        }

        /** Whether a direction is met turning with the sun from one course, ahead of the other. */
        static boolean isInSector(int from, int to, int east, int north) {
            int width = (to - from) & ROUND;
            if (width == 0 || (east == 0 && north == 0)) {
                return true;
            }
            // Turning signs tell directions apart only within half a round: a wider sector is what
            // the narrow one on the other side leaves.
            boolean isWide = width > HALF;
            int first = (isWide ? to : from) & ROUND;
            int last = (isWide ? from : to) & ROUND;
            int turnFromFirst = NORTH[first] * east - EAST[first] * north;
            int turnToLast = north * EAST[last] - east * NORTH[last];
            boolean isOnFirst = turnFromFirst == 0 && EAST[first] * east + NORTH[first] * north > 0;
            boolean isInNarrow = isOnFirst || (turnFromFirst > 0 && turnToLast > 0);
            return isInNarrow != isWide;
        }
    }

    /** What a sheet tells, in one row of cells, so that a copy of all of it is one copy of a row. */
    private static final class Sheet {
        static final int DRAUGHT = 0, SHIP_X = 1, SHIP_Y = 2, HARBOUR_X = 3, HARBOUR_Y = 4, SHIP_CELLS = 5;
        static final int SORT = 0, X = 1, Y = 2, A = 3, B = 4, THING_CELLS = 5;
        static final int COURSE = 0, UNTIL = 1, FIRST = 2, SECOND = 3, LEG_CELLS = 4;
        static final int BEACON = 1, LIGHT = 2, BUOY = 3, SHOAL = 4, ROCK = 5, BANK = 6;
        static final int MINUTES = 0, ABEAM = 1, IN_LINE = 2, SHUT_OR_OPEN = 3, DEPTH = 4;
        static final int HEIGHTS_MOST = 6, THINGS_MOST = 8, LEGS_MOST = 6;
        static final int PLACE_MOST = 60, REACH_MOST = 15, DEPTH_MOST = 20, UNTIL_MOST = 60;

        private static final int HEIGHTS = SHIP_CELLS;
        private static final int THINGS = HEIGHTS + HEIGHTS_MOST;
        private static final int LEGS = THINGS + THINGS_MOST * THING_CELLS;
        private static final int HEIGHT_COUNT = LEGS + LEGS_MOST * LEG_CELLS;
        private static final int THING_COUNT = HEIGHT_COUNT + 1;
        private static final int LEG_COUNT = THING_COUNT + 1;
        static final int CELLS = LEG_COUNT + 1;

        private final int[] cells = new int[CELLS];

        static int measureMost(int which) {
            return which == 2 ? REACH_MOST : which == 3 ? DEPTH_MOST : PLACE_MOST;
        }

        static int untilLeast(int sort) {
            return sort == MINUTES ? 1 : 0;
        }

        static int untilMost(int sort) {
            return sort == MINUTES || sort == DEPTH ? UNTIL_MOST : THINGS_MOST - 1;
        }

        /** A sheet has a leg, always: a row without one is none. */
        boolean isTold() {
            return cells[LEG_COUNT] > 0;
        }

        int heightCount() {
            return cells[HEIGHT_COUNT];
        }

        int thingCount() {
            return cells[THING_COUNT];
        }

        int legCount() {
            return cells[LEG_COUNT];
        }

        boolean hasThing(int thing) {
            return thing >= 0 && thing < cells[THING_COUNT];
        }

        boolean hasLeg(int leg) {
            return leg >= 0 && leg < cells[LEG_COUNT];
        }

        boolean isMark(int thing) {
            return hasThing(thing) && thingCell(thing, SORT) <= BUOY;
        }

        int markCount() {
            int marks = 0;
            for (int thing = 0; thing < THINGS_MOST; thing++) {
                if (isMark(thing)) {
                    marks++;
                }
            }
            return marks;
        }

        int shipCell(int which) {
            return which >= 0 && which < SHIP_CELLS ? cells[which] : 0;
        }

        int heightCell(int k) {
            return k >= 0 && k < HEIGHTS_MOST ? cells[HEIGHTS + k] : 0;
        }

        int thingCell(int thing, int what) {
            if (thing < 0 || thing >= THINGS_MOST || what < 0 || what >= THING_CELLS) {
                return 0;
            }
            return cells[THINGS + thing * THING_CELLS + what];
        }

        int legCell(int leg, int what) {
            if (leg < 0 || leg >= LEGS_MOST || what < 0 || what >= LEG_CELLS) {
                return 0;
            }
            return cells[LEGS + leg * LEG_CELLS + what];
        }

        int putShipCell(int which, int v) {
            int was = shipCell(which);
            if (which >= 0 && which < SHIP_CELLS) {
                cells[which] = v;
            }
            return was;
        }

        int putHeightCell(int k, int v) {
            int was = heightCell(k);
            if (k >= 0 && k < HEIGHTS_MOST) {
                cells[HEIGHTS + k] = v;
            }
            return was;
        }

        int putThingCell(int thing, int what, int v) {
            int was = thingCell(thing, what);
            if (thing >= 0 && thing < THINGS_MOST && what >= 0 && what < THING_CELLS) {
                cells[THINGS + thing * THING_CELLS + what] = v;
            }
            return was;
        }

        int putLegCell(int leg, int what, int v) {
            int was = legCell(leg, what);
            if (leg >= 0 && leg < LEGS_MOST && what >= 0 && what < LEG_CELLS) {
                cells[LEGS + leg * LEG_CELLS + what] = v;
            }
            return was;
        }

        int putUntil(int leg, int sort, int a, int b) {
            putLegCell(leg, FIRST, a);
            putLegCell(leg, SECOND, sort == IN_LINE ? b : NONE);
            return putLegCell(leg, UNTIL, sort);
        }

        void countHeights(int heights) {
            cells[HEIGHT_COUNT] = Math.max(0, Math.min(heights, HEIGHTS_MOST));
        }

        void countThings(int things) {
            cells[THING_COUNT] = Math.max(0, Math.min(things, THINGS_MOST));
        }

        void countLegs(int legs) {
            cells[LEG_COUNT] = Math.max(0, Math.min(legs, LEGS_MOST));
        }

        void openLeg(int place) {
            int legs = cells[LEG_COUNT];
            if (place < 0 || place > legs || legs >= LEGS_MOST) {
                return;
            }
            for (int i = LEGS + (legs + 1) * LEG_CELLS - 1; i >= LEGS + (place + 1) * LEG_CELLS; i--) {
                cells[i] = cells[i - LEG_CELLS];
            }
            countLegs(legs + 1);
        }

        void closeLeg(int leg) {
            int legs = cells[LEG_COUNT];
            if (leg < 0 || leg >= legs || legs > LEGS_MOST) {
                return;
            }
            for (int i = LEGS + leg * LEG_CELLS; i < LEGS + (legs - 1) * LEG_CELLS; i++) {
                cells[i] = cells[i + LEG_CELLS];
            }
            countLegs(legs - 1);
        }

        void copyFrom(Sheet other) {
            System.arraycopy(other.cells, 0, cells, 0, CELLS);
        }

        void copyToRow(int[] rows, int row) {
            if (row >= 0 && row < rows.length / CELLS) {
                System.arraycopy(cells, 0, rows, row * CELLS, CELLS);
            }
        }

        void copyFromRow(int[] rows, int row) {
            if (row >= 0 && row < rows.length / CELLS) {
                System.arraycopy(rows, row * CELLS, cells, 0, CELLS);
            }
        }
    }

    /** What the sheet was ahead of each of the latest acts, in a ring of rows. */
    private static final class History {
        static final int ACTS_MOST = 20;

        private final int[] rows = new int[ACTS_MOST * Sheet.CELLS];
        private int next = 0;
        private int size = 0;

        int size() {
            return size;
        }

        void forget() {
            size = 0;
        }

        void keep(Sheet sheet) {
            sheet.copyToRow(rows, next);
            next = next + 1 < ACTS_MOST ? next + 1 : 0;
            size = Math.min(size + 1, ACTS_MOST);
        }

        void takeBack(Sheet sheet) {
            if (size > 0) {
                next = next > 0 ? next - 1 : ACTS_MOST - 1;
                size--;
                sheet.copyFromRow(rows, next);
            }
        }
    }

    /** Reads the tape as a sheet, up to its first fault; the draft is whole only where there is none. */
    private static final class Reader {
        private static final int CANNOT_STAND = 1, NOT_AS_TOLD = 2, NO_ROOM = 3;
        private static final int FIGURES_MOST = 2;
        private static final String SORTS = "blusrk";
        private static final String UNTILS = "maied";

        final Sheet draft = new Sheet();
        int faultNumber = 0;
        int faultPlace = 0;
        private final Tape tape;
        private int place = 0;
        private int number = 0;

        Reader(Tape tape) {
            this.tape = tape;
        }

        boolean readTape() {
            place = 0;
            faultNumber = 0;
            faultPlace = 0;
            draft.countHeights(0);
            draft.countThings(0);
            draft.countLegs(0);
            return readShip() && readTide() && readHarbour() && readThings() && readLegs();
        }

        private boolean readShip() {
            return readByte('h') && readShipCell(Sheet.DRAUGHT, Sheet.DEPTH_MOST)
                && readByte(',') && readShipCell(Sheet.SHIP_X, Sheet.PLACE_MOST)
                && readByte(',') && readShipCell(Sheet.SHIP_Y, Sheet.PLACE_MOST)
                && readByte(';');
        }

        private boolean readTide() {
            if (!readByte('t')) {
                return false;
            }
            boolean goesOn = true;
            for (int k = 0; k < Sheet.HEIGHTS_MOST && goesOn; k++) {
                if (!readNumber(0, Sheet.DEPTH_MOST)) {
                    return false;
                }
                draft.putHeightCell(k, number);
                draft.countHeights(k + 1);
                goesOn = k + 1 < Sheet.HEIGHTS_MOST && tape.byteAt(place) == ',';
                if (goesOn) {
                    place++;
                }
            }
            return readByte(';');
        }

        private boolean readHarbour() {
            return readByte('z') && readShipCell(Sheet.HARBOUR_X, Sheet.PLACE_MOST)
                && readByte(',') && readShipCell(Sheet.HARBOUR_Y, Sheet.PLACE_MOST)
                && readByte(';');
        }

        private boolean readThings() {
            for (int thing = 0; thing <= Sheet.THINGS_MOST; thing++) {
                int sort = 1 + rankOf(SORTS);
                if (sort == 0) {
                    return true;
                }
                if (thing == Sheet.THINGS_MOST) {
                    return faultHere(NO_ROOM);
                }
                place++;
                draft.putThingCell(thing, Sheet.SORT, sort);
                if (!readMeasures(thing)) {
                    return false;
                }
                draft.countThings(thing + 1);
            }
            return true;
        }

        private boolean readMeasures(int thing) {
            for (int which = 0; which < 4; which++) {
                if (which > 0 && !readByte(',')) {
                    return false;
                }
                if (!readNumber(0, Sheet.measureMost(which))) {
                    return false;
                }
                draft.putThingCell(thing, Sheet.X + which, number);
            }
            return readByte(';');
        }

        private boolean readLegs() {
            for (int leg = 0; leg <= Sheet.LEGS_MOST; leg++) {
                if (leg > 0 && tape.byteAt(place) == Tape.END) {
                    return true;
                }
                if (tape.byteAt(place) != 'g') {
                    return faultHere(CANNOT_STAND);
                }
                if (leg == Sheet.LEGS_MOST) {
                    return faultHere(NO_ROOM);
                }
                place++;
                if (!readLeg(leg)) {
                    return false;
                }
                draft.countLegs(leg + 1);
            }
            return true;
        }

        private boolean readLeg(int leg) {
            if (!readNumber(0, Compass.COURSES - 1)) {
                return false;
            }
            draft.putLegCell(leg, Sheet.COURSE, number);
            int sort = rankOf(UNTILS);
            if (sort < 0) {
                return faultHere(CANNOT_STAND);
            }
            place++;
            if (!readNumber(Sheet.untilLeast(sort), Sheet.untilMost(sort))) {
                return false;
            }
            int first = number;
            if (sort == Sheet.IN_LINE && !(readByte(',') && readNumber(0, Sheet.THINGS_MOST - 1))) {
                return false;
            }
            draft.putUntil(leg, sort, first, number);
            return readByte(';');
        }

        private boolean readShipCell(int which, int most) {
            if (!readNumber(0, most)) {
                return false;
            }
            draft.putShipCell(which, number);
            return true;
        }

        private boolean readByte(char due) {
            if (tape.byteAt(place) != due) {
                return faultHere(CANNOT_STAND);
            }
            place++;
            return true;
        }

        private boolean readNumber(int least, int most) {
            int figures = 0;
            int value = 0;
            while (figures <= FIGURES_MOST && isFigure(tape.byteAt(place + figures))) {
                value = value * 10 + tape.byteAt(place + figures) - '0';
                figures++;
            }
            if (figures == 0 || figures > FIGURES_MOST) {
                return faultHere(CANNOT_STAND);
            }
            if (value < least || value > most) {
                return faultHere(NOT_AS_TOLD);
            }
            place += figures;
            number = value;
            return true;
        }

        private static boolean isFigure(int letter) {
            return letter >= '0' && letter <= '9';
        }

        /** Which one of the letters stands at this place, or -1. */
        private int rankOf(String letters) {
            int letter = tape.byteAt(place);
            return letter == Tape.END ? -1 : letters.indexOf((char) letter);
        }

        private boolean faultHere(int fault) {
            faultNumber = fault;
            faultPlace = place;
            return false;
        }
    }

    /** The sheet's waters: heights of the tide, depths, and what is seen from where. */
    private static final class Chart {
        private static final int MINUTES_APART = 10;
        private static final int OPEN_DEPTH = 40;
        private static final int DRIFT = 4;
        private static final int BEACON_SQUARE = 20 * 20;
        private static final int BUOY_SQUARE = 10 * 10;

        private final Sheet sheet;

        Chart(Sheet sheet) {
            this.sheet = sheet;
        }

        static boolean isCharted(int x, int y) {
            return x >= 0 && x <= Sheet.PLACE_MOST && y >= 0 && y <= Sheet.PLACE_MOST;
        }

        int heightAt(int m) {
            int heights = sheet.heightCount();
            if (heights < 1 || m < 0) {
                return 0;
            }
            int k = m / MINUTES_APART % heights;
            int here = sheet.heightCell(k);
            int next = sheet.heightCell(k + 1 < heights ? k + 1 : 0);
            return here + (next - here) * (m % MINUTES_APART) / MINUTES_APART;
        }

        int greatestHeight() {
            int greatest = 0;
            for (int k = 0; k < sheet.heightCount(); k++) {
                greatest = Math.max(greatest, sheet.heightCell(k));
            }
            return greatest;
        }

        int depthAt(int x, int y) {
            int least = OPEN_DEPTH;
            for (int thing = 0; thing < sheet.thingCount(); thing++) {
                if (liesIn(thing, x, y)) {
                    least = Math.min(least, depthOf(thing));
                }
            }
            return least;
        }

        int firstShoalAt(int x, int y) {
            int depth = depthAt(x, y);
            for (int thing = 0; thing < sheet.thingCount(); thing++) {
                if (liesIn(thing, x, y) && depthOf(thing) == depth) {
                    return thing;
                }
            }
            return NONE;
        }

        private int depthOf(int shoal) {
            int b = sheet.thingCell(shoal, Sheet.B);
            return sheet.thingCell(shoal, Sheet.SORT) == Sheet.ROCK ? -b : b;
        }

        /** Whether a thing is a shoal in which a place lies: marks have no ground of their own. */
        private boolean liesIn(int thing, int x, int y) {
            int sort = sheet.thingCell(thing, Sheet.SORT);
            if (sort < Sheet.SHOAL) {
                return false;
            }
            int east = x - sheet.thingCell(thing, Sheet.X);
            int north = y - sheet.thingCell(thing, Sheet.Y);
            int reach = sheet.thingCell(thing, Sheet.A);
            if (sort == Sheet.BANK) {
                return Math.abs(east) <= reach && Math.abs(north) <= reach;
            }
            return east * east + north * north <= reach * reach;
        }

        int markX(int thing, int height) {
            int drift = sheet.thingCell(thing, Sheet.SORT) == Sheet.BUOY ? height / DRIFT : 0;
            return sheet.thingCell(thing, Sheet.X) + drift;
        }

        /** Whether a mark is seen from a place at a height of the tide, if those marks (bits) are out. */
        boolean isInSight(int thing, int x, int y, int height, int outMarks) {
            if ((outMarks >> thing & 1) != 0) {
                return false;
            }
            int east = x - markX(thing, height);
            int north = y - sheet.thingCell(thing, Sheet.Y);
            int square = east * east + north * north;
            switch (sheet.thingCell(thing, Sheet.SORT)) {
                case Sheet.BEACON: return square <= BEACON_SQUARE;
                case Sheet.BUOY: return square <= BUOY_SQUARE;
                case Sheet.LIGHT:
                    int from = sheet.thingCell(thing, Sheet.A);
                    return Compass.isInSector(from, sheet.thingCell(thing, Sheet.B), east, north);
                default: return false;
            }
        }

        int squareFrom(int thing, int x, int y) {
            int east = x - sheet.thingCell(thing, Sheet.X);
            int north = y - sheet.thingCell(thing, Sheet.Y);
            return east * east + north * north;
        }

        boolean isOnePlace(int a, int b) {
            return sheet.thingCell(a, Sheet.X) == sheet.thingCell(b, Sheet.X)
                && sheet.thingCell(a, Sheet.Y) == sheet.thingCell(b, Sheet.Y);
        }

        /** How far left of the line from a to b a place lies, times how far b is from a; less than 0: right. */
        int leftOfLine(int a, int b, int x, int y) {
            int fromX = sheet.thingCell(a, Sheet.X);
            int fromY = sheet.thingCell(a, Sheet.Y);
            int east = sheet.thingCell(b, Sheet.X) - fromX;
            int north = sheet.thingCell(b, Sheet.Y) - fromY;
            return east * (y - fromY) - north * (x - fromX);
        }

        int shoalsOnSide(int a, int b, int side) {
            int found = 0;
            for (int thing = 0; thing < sheet.thingCount(); thing++) {
                if (sheet.thingCell(thing, Sheet.SORT) >= Sheet.SHOAL && sideOfShoal(a, b, thing) == side) {
                    found |= 1 << thing;
                }
            }
            return found;
        }

        /** 1 wholly left of the line from a to b, -1 wholly right, 0 neither. */
        private int sideOfShoal(int a, int b, int shoal) {
            int east = sheet.thingCell(b, Sheet.X) - sheet.thingCell(a, Sheet.X);
            int north = sheet.thingCell(b, Sheet.Y) - sheet.thingCell(a, Sheet.Y);
            int left = leftOfLine(a, b, sheet.thingCell(shoal, Sheet.X), sheet.thingCell(shoal, Sheet.Y));
            int reach = sheet.thingCell(shoal, Sheet.A);
            boolean isClear;
            if (sheet.thingCell(shoal, Sheet.SORT) == Sheet.BANK) {
                // The corner that is nearest to the line lies so much nearer than the middle.
                isClear = Math.abs(left) > reach * (Math.abs(east) + Math.abs(north));
            } else {
                isClear = left * left > reach * reach * (east * east + north * north);
            }
            return isClear ? Integer.signum(left) : 0;
        }
    }

    /** The until of the leg that is sailed: what was when the leg began, and whether it has come. */
    private static final class Watch {
        private final Sheet sheet;
        private final Chart chart;
        private int outMarks = 0;
        private int sort = 0;
        private int first = 0;
        private int second = 0;
        private int course = 0;
        private boolean wasSeen = false;
        private int lineWas = 0;

        Watch(Sheet sheet, Chart chart) {
            this.sheet = sheet;
            this.chart = chart;
        }

        /** Takes up a leg's until: the first thing by which it is mistaken, or NONE. */
        int takeUp(int leg, int courseOfLeg, int marksThatAreOut) {
            outMarks = marksThatAreOut;
            course = courseOfLeg;
            sort = sheet.legCell(leg, Sheet.UNTIL);
            first = sheet.legCell(leg, Sheet.FIRST);
            second = sheet.legCell(leg, Sheet.SECOND);
            if (sort == Sheet.MINUTES || sort == Sheet.DEPTH) {
                return NONE;
            }
            if (!sheet.isMark(first)) {
                return first;
            }
            if (sort == Sheet.SHUT_OR_OPEN && sheet.thingCell(first, Sheet.SORT) != Sheet.LIGHT) {
                return first;
            }
            return sort == Sheet.IN_LINE && !sheet.isMark(second) ? second : NONE;
        }

        void begin(int x, int y, int height) {
            wasSeen = sort == Sheet.SHUT_OR_OPEN && chart.isInSight(first, x, y, height, outMarks);
            lineWas = sort == Sheet.IN_LINE ? turnOfMarks(x, y, height) : 0;
        }

        boolean hasCome(int minute, int x, int y, int height, int water) {
            switch (sort) {
                case Sheet.MINUTES: return minute >= first;
                case Sheet.ABEAM:
                    return chart.isInSight(first, x, y, height, outMarks) && isAbeam(x, y, height);
                case Sheet.IN_LINE:
                    return chart.isInSight(first, x, y, height, outMarks)
                        && chart.isInSight(second, x, y, height, outMarks)
                        && isCrossed(turnOfMarks(x, y, height));
                case Sheet.SHUT_OR_OPEN:
                    return chart.isInSight(first, x, y, height, outMarks) != wasSeen;
                default: return water <= first;
            }
        }

        int untilSort() {
            return sort;
        }

        /** The first one of the marks that is not seen from there, or NONE. */
        int firstUnseen(int x, int y, int height) {
            if (sort != Sheet.ABEAM && sort != Sheet.IN_LINE) {
                return NONE;
            }
            if (!chart.isInSight(first, x, y, height, outMarks)) {
                return first;
            }
            return sort == Sheet.IN_LINE && !chart.isInSight(second, x, y, height, outMarks) ? second : NONE;
        }

        private boolean isAbeam(int x, int y, int height) {
            int east = chart.markX(first, height) - x;
            int north = sheet.thingCell(first, Sheet.Y) - y;
            return Compass.eastOf(course) * east + Compass.northOf(course) * north <= 0;
        }

        private int turnOfMarks(int x, int y, int height) {
            int firstEast = chart.markX(first, height) - x;
            int firstNorth = sheet.thingCell(first, Sheet.Y) - y;
            int secondEast = chart.markX(second, height) - x;
            int secondNorth = sheet.thingCell(second, Sheet.Y) - y;
            return firstEast * secondNorth - firstNorth * secondEast;
        }

        private boolean isCrossed(int lineIs) {
            return lineIs == 0 || (lineIs < 0 && lineWas > 0) || (lineIs > 0 && lineWas < 0);
        }
    }

    /** A voyage, made leg by leg, and what is left of it to be asked for. */
    private static final class Voyage {
        static final int ARRIVED = 0, OFF = 3, AGROUND = 4, OVERDUE = 5, MISTAKEN = 9, MISSED = 10;

        private static final int UNDER_WAY = -1;
        private static final int LEG_MINUTES_MOST = 60;
        private static final int MINUTES_MOST = Sheet.LEGS_MOST * LEG_MINUTES_MOST;
        private static final int HARBOUR_SQUARE = 3 * 3;

        final Watch watch;
        int start = 0;
        int draught = 0;
        int minutes = 0;
        int x = 0;
        int y = 0;
        int begun = 0;
        int done = 0;
        int ending = ARRIVED;
        int mistakenThing = NONE;
        int keelLeast = NONE;
        int keelMinute = NONE;
        private final Sheet sheet;
        private final Chart chart;
        private final int[] trackX = new int[MINUTES_MOST + 1];
        private final int[] trackY = new int[MINUTES_MOST + 1];
        private final int[] trackLeg = new int[MINUTES_MOST + 1];
        private final int[] legMinutes = new int[Sheet.LEGS_MOST];

        Voyage(Sheet sheet, Chart chart) {
            this.sheet = sheet;
            this.chart = chart;
            watch = new Watch(sheet, chart);
        }

        /** From a minute on, by a draught, with marks (bits) out, and one leg steered by another course. */
        void make(int from, int byDraught, int outMarks, int otherLeg, int otherCourse) {
            start = from;
            draught = byDraught;
            minutes = 0;
            x = sheet.shipCell(Sheet.SHIP_X);
            y = sheet.shipCell(Sheet.SHIP_Y);
            begun = 0;
            done = 0;
            ending = UNDER_WAY;
            mistakenThing = NONE;
            keelLeast = NONE;
            keelMinute = NONE;
            noteTrack(NONE);
            for (int leg = 0; leg < sheet.legCount() && ending == UNDER_WAY; leg++) {
                int course = leg == otherLeg ? otherCourse : sheet.legCell(leg, Sheet.COURSE);
                begun = leg + 1;
                noteMinutes(leg, 0);
                mistakenThing = watch.takeUp(leg, course, outMarks);
                if (mistakenThing != NONE) {
                    ending = MISTAKEN;
                } else {
                    goLeg(leg, course);
                }
            }
            if (ending == UNDER_WAY) {
                ending = harbourSquare() <= HARBOUR_SQUARE ? ARRIVED : MISSED;
            }
        }

        private void goLeg(int leg, int course) {
            watch.begin(x, y, chart.heightAt(start + minutes));
            for (int minute = 1; minute <= LEG_MINUTES_MOST; minute++) {
                x += Compass.eastOf(course);
                y += Compass.northOf(course);
                minutes++;
                noteTrack(leg);
                noteMinutes(leg, minute);
                if (!Chart.isCharted(x, y)) {
                    ending = OFF;
                    return;
                }
                int height = chart.heightAt(start + minutes);
                int water = chart.depthAt(x, y) + height;
                noteKeel(water - draught);
                if (water < draught) {
                    ending = AGROUND;
                    return;
                }
                if (watch.hasCome(minute, x, y, height, water)) {
                    done = leg + 1;
                    return;
                }
            }
            ending = OVERDUE;
        }

        private void noteTrack(int leg) {
            if (minutes >= 0 && minutes <= MINUTES_MOST) {
                trackX[minutes] = x;
                trackY[minutes] = y;
                trackLeg[minutes] = leg;
            }
        }

        private void noteMinutes(int leg, int minute) {
            if (leg >= 0 && leg < Sheet.LEGS_MOST) {
                legMinutes[leg] = minute;
            }
        }

        private void noteKeel(int keel) {
            if (keelMinute == NONE || keel < keelLeast) {
                keelLeast = keel;
                keelMinute = minutes;
            }
        }

        boolean arrives() {
            return ending == ARRIVED;
        }

        int harbourSquare() {
            int east = x - sheet.shipCell(Sheet.HARBOUR_X);
            int north = y - sheet.shipCell(Sheet.HARBOUR_Y);
            return east * east + north * north;
        }

        int minutesOf(int leg) {
            return leg >= 0 && leg < Sheet.LEGS_MOST ? legMinutes[leg] : 0;
        }

        /** Behind minute k: 0 X, 1 Y, 2 the leg; NONE: not so many minutes. */
        int trackCell(int k, int what) {
            if (k < 0 || k > minutes || k > MINUTES_MOST) {
                return NONE;
            }
            return what == 0 ? trackX[k] : what == 1 ? trackY[k] : trackLeg[k];
        }
    }

    /** Why the voyage that was made last does not arrive, and its log. */
    private static final class Account {
        private static final int IN_VOYAGE = 1, IN_LEG = 2, EBB = 6, DRY = 7, UNSEEN = 8;
        private static final int CAUSES_MOST = 4;
        private static final int SIGNS_MOST = 64;
        private static final int TO_GREAT = 'A' - 'a';

        private final Sheet sheet;
        private final Chart chart;
        private final Voyage voyage;
        private final int[] kinds = new int[CAUSES_MOST];
        private final int[] numbers = new int[CAUSES_MOST];
        private final int[] signs = new int[SIGNS_MOST];
        private int causes = 0;
        private int length = 0;

        Account(Sheet sheet, Chart chart, Voyage voyage) {
            this.sheet = sheet;
            this.chart = chart;
            this.voyage = voyage;
        }

        int kindOf(int i) {
            return i >= 0 && i < causes && i < CAUSES_MOST ? kinds[i] : NONE;
        }

        int numberOf(int i) {
            return i >= 0 && i < causes && i < CAUSES_MOST ? numbers[i] : NONE;
        }

        int signAt(int i) {
            return i >= 0 && i < length && i < SIGNS_MOST ? signs[i] : NONE;
        }

        void findCauses() {
            causes = 0;
            switch (voyage.ending) {
                case Voyage.ARRIVED:
                    break;
                case Voyage.MISSED:
                    addCause(IN_VOYAGE, sheet.legCount());
                    addCause(Voyage.MISSED, voyage.harbourSquare());
                    break;
                case Voyage.MISTAKEN:
                    addCause(IN_VOYAGE, voyage.begun - 1);
                    addCause(Voyage.MISTAKEN, voyage.mistakenThing);
                    break;
                default:
                    addCause(IN_VOYAGE, voyage.begun - 1);
                    addCause(IN_LEG, voyage.minutes);
                    findCausesInLeg();
            }
        }

        private void findCausesInLeg() {
            int height = chart.heightAt(voyage.start + voyage.minutes);
            if (voyage.ending == Voyage.OFF) {
                addCause(Voyage.OFF, sideOff());
            } else if (voyage.ending == Voyage.AGROUND) {
                addCause(Voyage.AGROUND, chart.firstShoalAt(voyage.x, voyage.y));
                addLackOfWater(height);
            } else {
                addCause(Voyage.OVERDUE, voyage.watch.untilSort());
                int unseen = voyage.watch.firstUnseen(voyage.x, voyage.y, height);
                if (unseen != NONE) {
                    addCause(UNSEEN, unseen);
                }
            }
        }

        private int sideOff() {
            if (voyage.x < 0) {
                return 0;
            }
            if (voyage.x > Sheet.PLACE_MOST) {
                return 1;
            }
            return voyage.y < 0 ? 2 : 3;
        }

        private void addLackOfWater(int height) {
            int wanted = voyage.draught - chart.depthAt(voyage.x, voyage.y);
            int lackAtBest = wanted - chart.greatestHeight();
            if (lackAtBest <= 0) {
                addCause(EBB, wanted - height);
            } else {
                addCause(DRY, lackAtBest);
            }
        }

        private void addCause(int kind, int number) {
            if (causes >= 0 && causes < CAUSES_MOST) {
                kinds[causes] = kind;
                numbers[causes] = number;
                causes++;
            }
        }

        void writeLog() {
            length = 0;
            for (int leg = 0; leg < voyage.begun; leg++) {
                writeGreat(Compass.nameOf(sheet.legCell(leg, Sheet.COURSE)));
                writeFigures(voyage.minutesOf(leg));
                writeSign(';');
            }
            writeSign(voyage.arrives() ? '.' : '!');
            for (int i = 0; i < causes; i++) {
                if (i > 0) {
                    writeSign(',');
                }
                writeFigures(kindOf(i));
            }
        }

        private void writeGreat(String name) {
            for (int i = 0; i < name.length(); i++) {
                writeSign(name.charAt(i) + TO_GREAT);
            }
        }

        /** Minutes of a leg and kinds have two figures at most. */
        private void writeFigures(int number) {
            if (number >= 10) {
                writeSign('0' + number / 10 % 10);
            }
            writeSign('0' + number % 10);
        }

        private void writeSign(int code) {
            if (length >= 0 && length < SIGNS_MOST) {
                signs[length] = code;
                length++;
            }
        }
    }

    /** What voyages would be: each is made on the sheet as it is, and nothing on it changes. */
    private static final class Forecast {
        static final int CASES = 10;

        private static final int STARTS = 30;
        private static final int DRAUGHTS = 21;
        private static final int DRAW_STARTS = 100;
        private static final int DRAW_SHIFT = 128;
        private static final long DRAW_TIMES = 16807L;
        private static final long DRAW_BY = 2147483647L;

        long above = 0;
        long below = 1;
        int arrivals = 0;
        int minutesOfAll = 0;
        private final Sheet sheet;
        private final Chart chart;
        private final Voyage voyage;

        Forecast(Sheet sheet, Chart chart, Voyage voyage) {
            this.sheet = sheet;
            this.chart = chart;
            this.voyage = voyage;
        }

        int startsThatArrive() {
            int found = 0;
            for (int t = 0; t < STARTS; t++) {
                voyage.make(t, sheet.shipCell(Sheet.DRAUGHT), 0, NO_LEG, 0);
                if (voyage.arrives()) {
                    found |= 1 << t;
                }
            }
            return found;
        }

        /** A draught bears on nothing but on going aground, so the least water on her way is the answer. */
        int greatestDraught(int t) {
            voyage.make(t, 0, 0, NO_LEG, 0);
            return voyage.arrives() ? Math.min(voyage.keelLeast, DRAUGHTS - 1) : NONE;
        }

        int coursesThatArrive(int leg, int t) {
            int found = 0;
            for (int course = 0; course < Compass.COURSES; course++) {
                voyage.make(t, sheet.shipCell(Sheet.DRAUGHT), 0, leg, course);
                if (voyage.arrives()) {
                    found |= 1 << course;
                }
            }
            return found;
        }

        int marksThatMatter(int t) {
            voyage.make(t, sheet.shipCell(Sheet.DRAUGHT), 0, NO_LEG, 0);
            boolean arrives = voyage.arrives();
            int minutes = voyage.minutes;
            int x = voyage.x;
            int y = voyage.y;
            int found = 0;
            for (int thing = 0; thing < sheet.thingCount(); thing++) {
                if (sheet.isMark(thing)) {
                    voyage.make(t, sheet.shipCell(Sheet.DRAUGHT), 1 << thing, NO_LEG, 0);
                    boolean isSame = voyage.arrives() == arrives && voyage.minutes == minutes
                        && voyage.x == x && voyage.y == y;
                    found |= isSame ? 0 : 1 << thing;
                }
            }
            return found;
        }

        int leastSquare(int thing, int t) {
            voyage.make(t, sheet.shipCell(Sheet.DRAUGHT), 0, NO_LEG, 0);
            int least = Integer.MAX_VALUE;
            for (int k = 0; k <= voyage.minutes; k++) {
                least = Math.min(least, chart.squareFrom(thing, voyage.trackCell(k, 0), voyage.trackCell(k, 1)));
            }
            return least;
        }

        /** Marks (bits) for which a leg waits. */
        int marksAwaited() {
            int found = 0;
            for (int leg = 0; leg < sheet.legCount(); leg++) {
                int sort = sheet.legCell(leg, Sheet.UNTIL);
                boolean waits = sort == Sheet.ABEAM || sort == Sheet.IN_LINE || sort == Sheet.SHUT_OR_OPEN;
                if (waits) {
                    found |= markBit(sheet.legCell(leg, Sheet.FIRST));
                }
                if (sort == Sheet.IN_LINE) {
                    found |= markBit(sheet.legCell(leg, Sheet.SECOND));
                }
            }
            return found;
        }

        private int markBit(int thing) {
            return sheet.isMark(thing) ? 1 << thing : 0;
        }

        /**
         * A leg that waits for a mark that is out is never done, so she arrives just when none of the
         * awaited marks is out and she arrives with all of them in.
         */
        void weighArrival(int t, int p) {
            voyage.make(t, sheet.shipCell(Sheet.DRAUGHT), 0, NO_LEG, 0);
            above = voyage.arrives() ? 1 : 0;
            below = 1;
            if (above == 0) {
                return;
            }
            int marks = Integer.bitCount(marksAwaited());
            int in = CASES - p;
            int shared = sharedWithCases(in);
            for (int i = 0; i < marks; i++) {
                above *= in / shared;
                below *= CASES / shared;
            }
        }

        /** The greatest number that divides both; never less than 1. */
        private static int sharedWithCases(int in) {
            for (int divisor = CASES; divisor > 1; divisor--) {
                if (CASES % divisor == 0 && in % divisor == 0) {
                    return divisor;
                }
            }
            return 1;
        }

        void drawVoyages(int n, int seed) {
            long draw = seed;
            arrivals = 0;
            minutesOfAll = 0;
            for (int i = 0; i < n; i++) {
                draw = draw * DRAW_TIMES % DRAW_BY;
                int t = (int) (draw % DRAW_STARTS);
                int byDraught = (int) (draw / DRAW_SHIFT % DRAUGHTS);
                voyage.make(t, byDraught, 0, NO_LEG, 0);
                arrivals += voyage.arrives() ? 1 : 0;
                minutesOfAll += voyage.minutes;
            }
        }
    }
}
