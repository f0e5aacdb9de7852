import java.util.Arrays;

/** Gardens in a row with hedges between them that harsh words feed; ../shared/DOC.md says what each call answers. */
public final class WordHedges {
    public static final int UNKNOWN = -1, OUTSIDE = -2, STATE = -3, FULL = -4, NONE = -9;
    public static final long LOST = Long.MIN_VALUE;

    private static final int NULL = 1, CAST = 2, INDEX = 3, SIZE = 4;
    private static final int FAULT_BASE = -10, TEXT_BASE = -100, WORD_BASE = 10, LEAN_BASE = 1000;
    private static final int DAYS = 30, MOST_GARDENS = 7, MOST_WORD = 3, MOST_READINGS = 10;
    private static final int FOOT = 12, MOST_FEET = 20, MOST_INCHES = 240, GOAT_INCHES = 36, FULL_LIGHT = 20;
    private static final int SHEETS = 4, LANES = 3, KINDS = 3, MOST_CELLS = 60;
    private static final int LEFT = 0, RIGHT = 1, ALL = -1, NO_HEDGE = -1, NO_FAULT = -1;
    /** What a neighbour may choose in the evening, the dearest one first: it is kept where others are as good. */
    private static final int[] CHOICES = {0, -1, 1};

    private final Row row = new Row();
    private final Rings rings = new Rings();
    private final Trace traced = new Trace();
    private final Sheet[] sheets = new Sheet[SHEETS];
    private int latestFault = 0;

    public WordHedges() {
        for (int k = 0; k < SHEETS; k++) sheets[k] = new Sheet();
    }

    // ---- 1 gardens

    public int gardens(int sheet, int lane, int i, int n) {
        latestFault = 0;
        if (!isSheet(sheet)) return UNKNOWN;
        if (!isWithin(lane, LANES - 1)) return OUTSIDE;
        Sheet from = sheets[sheet];
        if (from.isOfOtherLane(lane)) return faulted(CAST);
        if (from.hasNothing()) return faulted(NULL);
        if (n < 0) return faulted(SIZE);
        if (!from.holdsRun(i, n)) return faulted(INDEX);
        int place = Text.firstFault(from, i, n);
        if (place != NO_FAULT) return TEXT_BASE - place;
        row.plant(from, i, n);
        rings.clear();
        return row.count;
    }

    public int wants(int g) {
        return row.isGarden(g) ? row.wanted[g] : UNKNOWN;
    }

    public int ofHedge(int h, int what) {
        if (!row.isHedge(h)) return UNKNOWN;
        if (!isWithin(what, 1)) return OUTSIDE;
        Hedge hedge = row.borders[h].hedge;
        return what == 0 ? hedge.kind() : hedge.high;
    }

    public int say(int g, int side, int day, int word) {
        if (!row.isGarden(g)) return UNKNOWN;
        if (!isSide(side) || !isDay(day) || !isWithin(Math.abs(word), MOST_WORD)) return OUTSIDE;
        int h = hedgeBeside(g, side);
        if (!row.isHedge(h)) return UNKNOWN;
        return row.borders[h].speak(otherSide(side), day, word) + WORD_BASE;
    }

    public int clip(int h, int day, int feet) {
        if (!row.isHedge(h)) return UNKNOWN;
        if (!isDay(day) || feet != NONE && !isFeet(feet)) return OUTSIDE;
        return row.borders[h].cutBack(day, feet);
    }

    // ---- 2 the season

    public int face(int h, int side, int dawn) {
        if (!row.isHedge(h)) return UNKNOWN;
        if (!isSide(side) || !isDawn(dawn)) return OUTSIDE;
        return row.borders[h].inches[side][dawn];
    }

    public int height(int h, int dawn, int what) {
        if (!row.isHedge(h)) return UNKNOWN;
        if (!isDawn(dawn) || !isWithin(what, 1)) return OUTSIDE;
        Border border = row.borders[h];
        return what == 0 ? border.heightAt(dawn) : border.leanAt(dawn) + LEAN_BASE;
    }

    public int light(int g, int dawn) {
        if (!row.isGarden(g)) return UNKNOWN;
        if (!isDawn(dawn)) return OUTSIDE;
        return row.lightIf(g, dawn, NO_HEDGE, 0);
    }

    public int goats(int dawn) {
        if (!isDawn(dawn)) return OUTSIDE;
        if (row.count == 0) return STATE;
        return (2 << row.goatsReachIf(dawn, NO_HEDGE, 0)) - 1;
    }

    public int off(int g, int dawn) {
        if (!row.isGarden(g)) return UNKNOWN;
        if (!isDawn(dawn)) return OUTSIDE;
        return row.betterOffIf(g, dawn, NO_HEDGE, 0);
    }

    // ---- 3 scolds, rings

    public int scold(int day, int feet, int h, int side) {
        if (h != ALL && !row.isHedge(h)) return UNKNOWN;
        if (!isDay(day) || !isFeet(feet) || !isSide(side)) return OUTSIDE;
        if (row.count == 0) return STATE;
        if (h == ALL) return row.scoldedMore(day, feet);
        int word = row.borders[h].scoldedWord(side, day, feet);
        return word == NONE ? NONE : word + WORD_BASE;
    }

    public int reading(int h, int side, int dawn, int inches) {
        if (!row.isHedge(h)) return UNKNOWN;
        if (!isSide(side) || !isDawn(dawn) || !isWithin(inches, MOST_INCHES)) return OUTSIDE;
        return rings.count >= MOST_READINGS ? FULL : rings.keep(h, side, dawn, inches);
    }

    public int back(int k) {
        if (!isWithin(k, rings.count)) return OUTSIDE;
        rings.count -= k;
        return rings.count;
    }

    public int said(int g, int side, int day) {
        if (!row.isGarden(g)) return UNKNOWN;
        if (!isSide(side) || !isDay(day)) return OUTSIDE;
        int h = hedgeBeside(g, side);
        if (!row.isHedge(h)) return UNKNOWN;
        int set = 0;
        for (int word = -MOST_WORD; word <= MOST_WORD; word++) {
            if (rings.allSoIf(row, h, otherSide(side), day, word)) set |= 1 << (word + MOST_WORD);
        }
        return set;
    }

    // ---- 4 quarrels, peace

    public int quarrel(int h, int first, int last, int side) {
        if (!row.isHedge(h)) return UNKNOWN;
        if (!isDay(first) || !isDay(last) || last < first || !isSide(side)) return OUTSIDE;
        return row.lastWordOfQuarrel(h, first, last, side) + WORD_BASE;
    }

    public int peace(int day) {
        if (!isDay(day)) return OUTSIDE;
        if (row.count == 0) return STATE;
        int set = 0;
        for (int g = 0; g < row.count; g++) {
            if (row.wouldGain(g, LEFT, day) || row.wouldGain(g, RIGHT, day)) set |= 1 << g;
        }
        return set;
    }

    // ---- 5 clippers, fines

    public int round(int dawn, int c) {
        if (!isDawn(dawn) || !isFeet(c)) return OUTSIDE;
        if (row.count == 0) return STATE;
        return row.roundMinutes(dawn, c);
    }

    public int fines(int g, int c) {
        if (g != ALL && !row.isGarden(g)) return UNKNOWN;
        if (!isFeet(c)) return OUTSIDE;
        if (g != ALL) return row.finesOf(g, c);
        int coins = 0;
        for (int k = 0; k < row.count; k++) coins += row.finesOf(k, c);
        return coins;
    }

    public long mean(int dawn, int which) {
        if (!isDawn(dawn) || !isWithin(which, 1) || row.count == 0) return LOST;
        int upper = row.heightsTogether(dawn);
        int lower = row.count - 1;
        int divisor = commonDivisor(upper, lower);
        return (which == 0 ? upper : lower) / divisor;
    }

    // ---- 6 sheets, parts

    public int sheet(int k, int lane, int n) {
        latestFault = 0;
        if (!isSheet(k)) return UNKNOWN;
        if (!isWithin(lane, LANES - 1) || n > MOST_CELLS) return OUTSIDE;
        if (n < 0) return faulted(SIZE);
        sheets[k].begin(lane, n);
        return 1;
    }

    public int lose(int k) {
        if (!isSheet(k)) return UNKNOWN;
        if (sheets[k].hasNothing()) return 0;
        sheets[k].drop();
        return 1;
    }

    public int put(int k, int i, int v) {
        latestFault = 0;
        if (!isSheet(k)) return UNKNOWN;
        if (sheets[k].hasNothing()) return faulted(NULL);
        if (!sheets[k].holds(i)) return faulted(INDEX);
        sheets[k].write(i, v);
        return 1;
    }

    public long cell(int k, int i, int lane) {
        latestFault = 0;
        if (!isSheet(k) || !isWithin(lane, LANES - 1)) return LOST;
        Sheet from = sheets[k];
        if (from.isOfOtherLane(lane)) return lostBy(CAST);
        if (from.hasNothing()) return lostBy(NULL);
        if (!from.holds(i)) return lostBy(INDEX);
        return from.cells[i];
    }

    public int copy(int k, int i, int other, int j, int n) {
        latestFault = 0;
        if (!isSheet(k) || !isSheet(other)) return UNKNOWN;
        Sheet from = sheets[k];
        Sheet to = sheets[other];
        if (from.hasNothing() || to.hasNothing()) return faulted(NULL);
        if (from.isOfOtherLane(to.lane)) return faulted(CAST);
        if (!from.holdsRun(i, n) || !to.holdsRun(j, n)) return faulted(INDEX);
        System.arraycopy(from.cells, i, to.cells, j, n);
        return n;
    }

    public int tell(int h) {
        return row.isHedge(h) ? row.borders[h].hedge.telling(traced) : UNKNOWN;
    }

    public int lean(int h) {
        return row.isHedge(h) ? row.borders[h].hedge.leaning(traced) : UNKNOWN;
    }

    public int as(int h, int kind) {
        latestFault = 0;
        if (!row.isHedge(h)) return UNKNOWN;
        if (!isWithin(kind, KINDS - 1)) return OUTSIDE;
        // Each kind is one of all kinds with a lesser number.
        return row.borders[h].hedge.kind() >= kind ? 1 : faulted(CAST);
    }

    public int trace() {
        return traced.mark;
    }

    public int fault() {
        return latestFault;
    }

    public int many(int what) {
        switch (what) {
            case 0: return row.count;
            case 1: return Math.max(0, row.count - 1);
            case 2: return rings.count;
            default: return OUTSIDE;
        }
    }

    // ---- what the calls ask of their numbers

    private int faulted(int which) {
        latestFault = which;
        return FAULT_BASE - which;
    }

    private long lostBy(int which) {
        latestFault = which;
        return LOST;
    }

    private static boolean isWithin(int number, int most) {
        return number >= 0 && number <= most;
    }

    private static boolean isSheet(int k) {
        return isWithin(k, SHEETS - 1);
    }

    private static boolean isSide(int side) {
        return isWithin(side, RIGHT);
    }

    private static boolean isDay(int day) {
        return isWithin(day, DAYS - 1);
    }

    private static boolean isDawn(int dawn) {
        return isWithin(dawn, DAYS);
    }

    private static boolean isFeet(int feet) {
        return isWithin(feet, MOST_FEET);
    }

    /** A number that is no hedge's, if the garden has none on that side. */
    private static int hedgeBeside(int g, int side) {
        return side == LEFT ? g - 1 : g;
    }

    /** A garden's left hedge turns its right flank to it, and the other way round. */
    private static int otherSide(int side) {
        return side == LEFT ? RIGHT : LEFT;
    }

    /** The greatest divisor of both; lower is above 0 and small. */
    private static int commonDivisor(int upper, int lower) {
        for (int d = lower; d > 1; d--) {
            if (upper % d == 0 && lower % d == 0) return d;
        }
        return 1;
    }

    /** A row of numbers of a lane, or nothing; the cells are made once and used again. */
    private static final class Sheet {
        private static final int NOTHING = -1, BYTES = 0, SHORTS = 1;
        private final int[] cells = new int[MOST_CELLS];
        private int lane = NOTHING;
        private int length = 0;

        void begin(int newLane, int n) {
            lane = newLane;
            length = n;
            Arrays.fill(cells, 0);
        }

        void drop() {
            lane = NOTHING;
            length = 0;
        }

        boolean hasNothing() {
            return lane == NOTHING;
        }

        boolean isOfOtherLane(int wanted) {
            return lane != NOTHING && lane != wanted;
        }

        boolean holds(int i) {
            return i >= 0 && i < length;
        }

        boolean holdsRun(int i, int n) {
            return i >= 0 && i <= length && n >= 0 && n <= length - i;
        }

        void write(int i, int v) {
            cells[i] = lane == BYTES ? (byte) v : lane == SHORTS ? (short) v : v;
        }
    }

    /** The form of a text: g, then by threes what a garden wants, its hedge's letter, its hedge's digit. */
    private static final class Text {
        private static final int GARDEN = 0, LETTER = 1;

        /** NO_FAULT, if the n cells from a place on are a text. */
        static int firstFault(Sheet sheet, int from, int n) {
            for (int place = 0; place < n; place++) {
                if (!goesOn(place, sheet.cells[from + place])) return place;
            }
            return isWhole(n) ? NO_FAULT : n;
        }

        private static boolean goesOn(int place, int code) {
            if (place == 0) return code == 'g';
            if (partAt(place) == LETTER) return gardenAt(place) < MOST_GARDENS - 1 && kindOf(code) >= 0;
            return code >= '0' && code <= '9';
        }

        private static boolean isWhole(int n) {
            return n > 1 && partAt(n - 1) == GARDEN && gardenAt(n - 1) > 0;
        }

        private static int partAt(int place) {
            return (place - 1) % 3;
        }

        private static int gardenAt(int place) {
            return (place - 1) / 3;
        }

        /** How many gardens a text of n codes has. */
        static int gardensOf(int n) {
            return (n + 1) / 3;
        }

        /** -1: it is no kind's letter. */
        static int kindOf(int code) {
            switch (code) {
                case 'h': return 0;
                case 'y': return 1;
                case 'b': return 2;
                default: return -1;
            }
        }
    }

    private static final class Trace {
        private int mark = 0;

        void enter(int body) {
            mark = 31 * mark + body;
        }
    }

    private static class Hedge {
        final int number;
        final int high;

        Hedge(int number, int high) {
            this.number = number;
            this.high = high;
        }

        int kind() {
            return 0;
        }

        /** By how many inches a flank is higher after a day on which it hears a word. */
        int growth(int word) {
            return word > 0 ? FOOT * word : 3 * word;
        }

        int telling(Trace trace) {
            return plainTelling(trace);
        }

        /** The plain hedge's own body, for a kind that leaves out the one between. */
        final int plainTelling(Trace trace) {
            trace.enter(1);
            return high;
        }

        int leaning(Trace trace) {
            trace.enter(4);
            return number;
        }
    }

    private static class Yew extends Hedge {
        Yew(int number, int high) {
            super(number, high);
        }

        int kind() {
            return 1;
        }

        int growth(int word) {
            return word > 0 ? FOOT * word / 2 : 3 * word;
        }

        int telling(Trace trace) {
            trace.enter(2);
            return super.telling(trace) + 100;
        }
    }

    private static final class Bramble extends Yew {
        Bramble(int number, int high) {
            super(number, high);
        }

        int kind() {
            return 2;
        }

        int growth(int word) {
            if (word > 0) return super.growth(word);
            return word == 0 ? -6 : 0;
        }

        int telling(Trace trace) {
            trace.enter(3);
            int asYew = super.telling(trace);
            return asYew + plainTelling(trace);
        }

        int leaning(Trace trace) {
            trace.enter(5);
            return 20;
        }
    }

    /** A hedge in its place, with its season: rows by flank (LEFT, RIGHT), kept at every dawn as the words are told. */
    private static final class Border {
        private Hedge hedge = new Hedge(0, 0);
        private final int[][] words = new int[2][DAYS];
        private final int[][] inches = new int[2][DAYS + 1];
        private final int[] clips = new int[DAYS];

        void plant(Hedge planted) {
            hedge = planted;
            Arrays.fill(clips, NONE);
            for (int side = LEFT; side <= RIGHT; side++) {
                Arrays.fill(words[side], 0);
                inches[side][0] = FOOT * planted.high;
                growFrom(side, 0);
            }
        }

        /** What was said there before. */
        int speak(int side, int day, int word) {
            int before = words[side][day];
            words[side][day] = word;
            growFrom(side, day);
            return before;
        }

        /** To what it was clipped before. */
        int cutBack(int day, int feet) {
            int before = clips[day];
            clips[day] = feet;
            growFrom(LEFT, day);
            growFrom(RIGHT, day);
            return before;
        }

        private void growFrom(int side, int first) {
            int[] told = words[side];
            int[] dawns = inches[side];
            for (int day = first; day < DAYS; day++) dawns[day + 1] = dayOver(dawns[day], day, told[day]);
        }

        /** How high a flank of so many inches is when a day is over on which it heard a word. */
        int dayOver(int before, int day, int word) {
            int grown = Math.max(0, Math.min(MOST_INCHES, before + hedge.growth(word)));
            return clips[day] == NONE ? grown : Math.min(grown, FOOT * clips[day]);
        }

        /** How high a flank is at a dawn, if it hears this word on a day. */
        int inchesIf(int side, int dawn, int day, int word) {
            if (dawn <= day) return inches[side][dawn];
            int now = dayOver(inches[side][day], day, word);
            for (int d = day + 1; d < dawn; d++) now = dayOver(now, d, words[side][d]);
            return now;
        }

        int heightAt(int dawn) {
            int left = inches[LEFT][dawn];
            int right = inches[RIGHT][dawn];
            return left < right ? left : right;
        }

        /** HEIGHT when a day is over, if one flank hears this word on it. */
        int heightIf(int side, int day, int word) {
            return Math.min(dayOver(inches[side][day], day, word), inches[otherSide(side)][day + 1]);
        }

        int leanAt(int dawn) {
            return inches[LEFT][dawn] - inches[RIGHT][dawn];
        }

        /** What the flank hears from the scold; NONE: no word is enough. */
        int scoldedWord(int side, int day, int feet) {
            for (int word = words[side][day]; word <= MOST_WORD; word++) {
                if (inchesIf(side, DAYS, day, word) >= FOOT * feet) return word;
            }
            return NONE;
        }

        int clippingMinutes(int dawn, int c) {
            int above = inchesAbove(LEFT, dawn, c) + inchesAbove(RIGHT, dawn, c);
            return (above + FOOT - 1) / FOOT;
        }

        private int inchesAbove(int side, int dawn, int c) {
            return Math.max(0, inches[side][dawn] - FOOT * c);
        }

        /** What the garden on a side pays for it in the season. */
        int finesBy(int side, int c) {
            int coins = 0;
            for (int dawn = 1; dawn <= DAYS; dawn++) {
                int height = heightAt(dawn);
                if (height <= FOOT * c) continue;
                int feet = height / FOOT;
                coins += feet / 2;
                if (oddCoinSide(dawn) == side) coins += feet % 2;
            }
            return coins;
        }

        private int oddCoinSide(int dawn) {
            return leanAt(dawn) >= 0 ? LEFT : RIGHT;
        }
    }

    /** The gardens; "If" in a name: one hedge (or NO_HEDGE) is taken to be of another HEIGHT at that dawn. */
    private static final class Row {
        private final int[] wanted = new int[MOST_GARDENS];
        private final Border[] borders = new Border[MOST_GARDENS - 1];
        private int count = 0;

        Row() {
            for (int h = 0; h < MOST_GARDENS - 1; h++) borders[h] = new Border();
        }

        boolean isGarden(int g) {
            return g >= 0 && g < count;
        }

        boolean isHedge(int h) {
            return h >= 0 && h < count - 1;
        }

        /** The n cells from a place on are a text. */
        void plant(Sheet sheet, int from, int n) {
            count = Text.gardensOf(n);
            for (int g = 0; g < count; g++) {
                int place = from + 1 + 3 * g;
                wanted[g] = sheet.cells[place] - '0';
                if (isHedge(g)) borders[g].plant(seedling(g, sheet.cells[place + 1], sheet.cells[place + 2] - '0'));
            }
        }

        private static Hedge seedling(int number, int letter, int high) {
            switch (Text.kindOf(letter)) {
                case 1: return new Yew(number, high);
                case 2: return new Bramble(number, high);
                default: return new Hedge(number, high);
            }
        }

        private int heightOrIf(int h, int dawn, int changed, int inches) {
            return h == changed ? inches : borders[h].heightAt(dawn);
        }

        int lightIf(int g, int dawn, int changed, int inches) {
            int light = FULL_LIGHT;
            if (isHedge(g - 1)) light -= heightOrIf(g - 1, dawn, changed, inches) / FOOT;
            if (isHedge(g)) light -= heightOrIf(g, dawn, changed, inches) / FOOT;
            return Math.max(0, light);
        }

        /** The last garden to which goats come. */
        int goatsReachIf(int dawn, int changed, int inches) {
            for (int h = 0; h < count - 1; h++) {
                if (heightOrIf(h, dawn, changed, inches) >= GOAT_INCHES) return h;
            }
            return count - 1;
        }

        int betterOffIf(int g, int dawn, int changed, int inches) {
            int points = 0;
            if (lightIf(g, dawn, changed, inches) >= wanted[g]) points++;
            if (g > goatsReachIf(dawn, changed, inches)) points++;
            return points;
        }

        /** How much more all flanks hear from the scold; NONE: for some flank no word is enough. */
        int scoldedMore(int day, int feet) {
            int more = 0;
            for (int h = 0; h < count - 1; h++) {
                for (int side = LEFT; side <= RIGHT; side++) {
                    int word = borders[h].scoldedWord(side, day, feet);
                    if (word == NONE) return NONE;
                    more += word - borders[h].words[side][day];
                }
            }
            return more;
        }

        int lastWordOfQuarrel(int h, int first, int last, int side) {
            Border border = borders[h];
            int left = border.inches[LEFT][first];
            int right = border.inches[RIGHT][first];
            int leftWord = 0;
            int rightWord = 0;
            for (int day = first; day <= last; day++) {
                leftWord = eveningChoice(h, h, day, left, border.dayOver(right, day, 0));
                rightWord = eveningChoice(h + 1, h, day, right, border.dayOver(left, day, 0));
                left = border.dayOver(left, day, leftWord);
                right = border.dayOver(right, day, rightWord);
            }
            return side == LEFT ? leftWord : rightWord;
        }

        /** The word by which garden g is best off: own is its flank ahead of the day, quiet the other flank after it. */
        private int eveningChoice(int g, int h, int day, int own, int quiet) {
            int chosen = 0;
            int best = -1;
            for (int word : CHOICES) {
                int height = Math.min(borders[h].dayOver(own, day, word), quiet);
                int points = betterOffIf(g, day + 1, h, height);
                if (points > best) {
                    best = points;
                    chosen = word;
                }
            }
            return chosen;
        }

        /** Whether another word to the hedge on that side had made the garden better off. */
        boolean wouldGain(int g, int side, int day) {
            int h = hedgeBeside(g, side);
            if (!isHedge(h)) return false;
            int now = betterOffIf(g, day + 1, NO_HEDGE, 0);
            for (int word : CHOICES) {
                int height = borders[h].heightIf(otherSide(side), day, word);
                if (betterOffIf(g, day + 1, h, height) > now) return true;
            }
            return false;
        }

        /** He walks just to the nearer garden of the last hedge that is too high: all others are on his way. */
        int roundMinutes(int dawn, int c) {
            int walked = 0;
            int clipped = 0;
            for (int h = 0; h < count - 1; h++) {
                int minutes = borders[h].clippingMinutes(dawn, c);
                if (minutes > 0) walked = h;
                clipped += minutes;
            }
            return walked + clipped;
        }

        int finesOf(int g, int c) {
            int coins = 0;
            if (isHedge(g - 1)) coins += borders[g - 1].finesBy(RIGHT, c);
            if (isHedge(g)) coins += borders[g].finesBy(LEFT, c);
            return coins;
        }

        int heightsTogether(int dawn) {
            int inches = 0;
            for (int h = 0; h < count - 1; h++) inches += borders[h].heightAt(dawn);
            return inches;
        }
    }

    /** The readings, each a cell of every row. */
    private static final class Rings {
        private final int[] hedges = new int[MOST_READINGS];
        private final int[] sides = new int[MOST_READINGS];
        private final int[] dawns = new int[MOST_READINGS];
        private final int[] inches = new int[MOST_READINGS];
        private int count = 0;

        void clear() {
            count = 0;
        }

        /** Its number; the caller has seen that there is room. */
        int keep(int h, int side, int dawn, int high) {
            hedges[count] = h;
            sides[count] = side;
            dawns[count] = dawn;
            inches[count] = high;
            count++;
            return count - 1;
        }

        /** Whether all readings are so, if one flank hears this word on a day. */
        boolean allSoIf(Row row, int h, int side, int day, int word) {
            for (int k = 0; k < count; k++) {
                Border border = row.borders[hedges[k]];
                boolean hearsIt = hedges[k] == h && sides[k] == side;
                int found = hearsIt ? border.inchesIf(side, dawns[k], day, word) : border.inches[sides[k]][dawns[k]];
                if (found != inches[k]) return false;
            }
            return true;
        }
    }
}
