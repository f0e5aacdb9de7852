/**
 * Promises 1 to 11: the document's sentences that name an edge (too low, too high, just so, none), in its order, each with
 * a test of its own; what numbers a call takes is in BoundsTest, what it refuses first in RefusalsTest.
 */
public final class SeasonEdgesTest {
    private static final int UNKNOWN = Scene.UNKNOWN, NONE = Scene.NONE;
    private static final int NULL = Scene.NULL, CAST = Scene.CAST, INDEX = Scene.INDEX;
    private static final int LOW = Scene.LOW, FAR = Scene.FAR;
    private static final long LOST = Scene.LOST;
    private static final String SEVEN = "g9h98y87b76h65y54b43";

    public static void main(String[] args) {
        newObject();
        twoToSevenGardens();
        firstFaultByCode();
        firstOfSeveralFaults();
        endsTooSoon();
        textsWithinSheets();
        textsByLane();
        allAnew();
        wordsAtFirst();
        neverBelowNone();
        neverAbove240();
        halfOfYews();
        brambleInSilence();
        clippedIfHigher();
        clippedBehindTheWord();
        daysAndDawns();
        lesserFlank();
        leans();
        lightInWholeFeet();
        lightNoneAtLeast();
        goatsBelow36();
        goatsAsFar();
        lightNoLess();
        Due.end();
    }

    // 1: No GARDENS, SHEETS have nothing
    private static void newObject() {
        for (int k = 0; k < 4; k++) {
            WordHedges x = new WordHedges();
            Due.is("1 put", x.put(k, 0, 0), NULL);
            Due.is("1 cell", x.cell(k, 0, 0), LOST);
            Due.is("1 cell's fault", x.fault(), 1);
            Due.is("1 gardens", x.gardens(k, 2, 0, 0), NULL);
            Due.is("1 copy", x.copy(k, 0, k, 0, 0), NULL);
            Due.is("1 lose", x.lose(k), 0);
            Due.is("1 gardens", x.many(0), 0);
            Due.is("1 trace", x.trace(), 0);
        }
    }

    // Terms 1: "g, then 2 to 7 GARDENS"
    private static void twoToSevenGardens() {
        for (int count = 1; count <= 7; count++) {
            WordHedges x = new WordHedges();
            Due.is(count + " gardens", Due.told(x, 0, SEVEN.substring(0, 3 * count - 1)), count == 1 ? -102 : count);
            Due.is(count + " gardens", x.many(0), count == 1 ? 0 : count);
            for (int g = 0; count > 1 && g < count; g++) Due.is("wants", x.wants(g), SEVEN.charAt(3 * g + 1) - '0');
            for (int h = 0; h < count - 1; h++) {
                Due.is("kind", x.ofHedge(h, 0), h % 3);
                Due.is("high", x.ofHedge(h, 1), SEVEN.charAt(3 * h + 3) - '0');
            }
        }
        Due.is("8 gardens", Due.told(new WordHedges(), 0, SEVEN + "h11"), -120);
        for (int digit = 0; digit <= 9; digit++) {
            WordHedges x = Due.planted("g" + digit + "h" + digit + digit);
            Due.is("each digit is wanted", x.wants(0), digit);
            Due.is("each digit is wanted", x.wants(1), digit);
            Due.is("each digit is high", x.ofHedge(0, 1), digit);
            Due.is("12 times HIGH at first", x.face(0, 0, 0), 12 * digit);
            Due.is("12 times HIGH at first", x.face(0, 1, 0), 12 * digit);
        }
    }

    private static boolean goesOn(int place, int code) {
        if (place == 0) return code == 103;
        if (place == 20) return false;
        if (place % 3 == 2) return code == 104 || code == 121 || code == 98;
        return code >= 48 && code <= 57;
    }

    /** What is due to the first codes of SEVEN up to a place, with another code there. */
    private static int dueAt(int place, int code) {
        if (!goesOn(place, code)) return -100 - place;
        boolean whole = place >= 4 && place % 3 == 1;
        return whole ? (place + 2) / 3 : -100 - (place + 1);
    }

    // Terms 1: "the place (from 0 on) of the first code with which no TEXT goes on (the letter behind a seventh GARDEN)"
    private static void firstFaultByCode() {
        for (int place = 0; place <= 20; place++) {
            for (int code = -300; code <= 400; code++) byCode(place, code);
            for (int code : new int[] {LOW, FAR, 103 + 256, 104 + 65536, 48 + 65536, 98 - 256, 121 - 65536}) byCode(place, code);
        }
    }

    private static void byCode(int place, int code) {
        WordHedges x = new WordHedges();
        x.sheet(0, 2, place + 1);
        for (int i = 0; i < place; i++) x.put(0, i, SEVEN.charAt(i));
        x.put(0, place, code);
        Due.is("code " + code + " at " + place, x.gardens(0, 2, 0, place + 1), dueAt(place, code));
    }

    // Terms 1: "the first code"
    private static void firstOfSeveralFaults() {
        WordHedges x = new WordHedges();
        Due.is("two wrong codes", Due.told(x, 0, "g5x3x"), -102);
        Due.is("wrong, and too soon", Due.told(x, 0, "x"), -100);
        Due.is("wrong ahead of too many", Due.told(x, 0, "g9h98y87b76h65y54bb3h11"), -118);
        Due.is("too many ahead of wrong", Due.told(x, 0, SEVEN + "xxx"), -120);
        Due.is("a text behind a text", Due.told(x, 0, "g5h39g5h39"), -105);
        Due.is("no gardens", x.many(0), 0);
    }

    // Terms 1: "how many codes there are, if it just ends too soon (behind g, a letter, a HEDGE's digit, the first GARDEN)"
    private static void endsTooSoon() {
        for (int n = 0; n <= 20; n++) {
            boolean whole = n >= 5 && n % 3 == 2;
            Due.is("the first " + n, Due.told(new WordHedges(), 0, SEVEN.substring(0, n)), whole ? (n + 1) / 3 : -100 - n);
        }
    }

    // 2: "n cells of a SHEET from i on": up to the last one, places are told from i on
    private static void textsWithinSheets() {
        for (int i : new int[] {0, 1, 39, 40}) {
            WordHedges x = new WordHedges();
            x.sheet(1, 0, 60);
            for (int k = 0; k < 20; k++) x.put(1, i + k, SEVEN.charAt(k));
            Due.is("from " + i + " on", x.gardens(1, 0, i, 20), 7);
            Due.is("from " + i + " on, too few", x.gardens(1, 0, i, 19), -119);
            Due.is("from " + (i + 1) + " on", x.gardens(1, 0, i + 1, 19), -100);
            Due.is("from " + i + " on, one more", x.gardens(1, 0, i, 21), i == 40 ? INDEX : -120);
            Due.is("behind all", x.gardens(1, 0, 60, 0), -100);
            Due.is("behind all", x.gardens(1, 0, 60, 1), INDEX);
            Due.is("beyond", x.gardens(1, 0, 61, 0), INDEX);
            Due.is("all of them", x.gardens(1, 0, 0, 60), i == 0 ? -120 : -100);
            Due.is("more than all", x.gardens(1, 0, 0, 61), INDEX);
            Due.is("7 stay", x.many(0), 7);
        }
    }

    // 2: "taken as a row of a LANE"; 6: "what comes to a cell of it is cut to its LANE"
    private static void textsByLane() {
        int[] over = {256, 65536, 0};
        for (int lane = 0; lane < 3; lane++) {
            WordHedges x = new WordHedges();
            x.sheet(0, lane, 5);
            for (int i = 0; i < 5; i++) x.put(0, i, SEVEN.charAt(i) + over[lane]);
            for (int as = 0; as < 3; as++) Due.is("lane " + lane + " as " + as, x.gardens(0, as, 0, 5), as == lane ? 2 : CAST);
            if (lane == 2) continue;
            x.sheet(0, lane + 1, 5);
            for (int i = 0; i < 5; i++) x.put(0, i, SEVEN.charAt(i) + over[lane]);
            Due.is("not cut in lane " + (lane + 1), x.gardens(0, lane + 1, 0, 5), -100);
        }
    }

    // Terms 1: "A TEXT that is taken makes all anew: no WORDS, no CLIPS, no READINGS" (and the sheets, TRACE stay)
    private static void allAnew() {
        WordHedges x = Due.planted(SEVEN);
        for (int h = 0; h < 6; h++) {
            for (int day = 0; day < 30; day += 29) {
                x.say(h, 1, day, 3);
                x.say(h + 1, 0, day, -3);
                x.clip(h, day, h);
            }
        }
        for (int k = 0; k < 10; k++) x.reading(0, 0, k, 0);
        x.lean(0);
        Due.is("taken again", x.gardens(3, 2, 0, 20), 7);
        for (int h = 0; h < 6; h++) {
            for (int day = 0; day < 30; day += 29) {
                Due.is("no words", x.say(h, 1, day, 0), 10);
                Due.is("no words", x.say(h + 1, 0, day, 0), 10);
                Due.is("no clips", x.clip(h, day, NONE), NONE);
            }
            boolean bramble = h % 3 == 2;
            for (int side = 0; side < 2; side++) Due.is("as at first", x.face(h, side, 30), bramble ? 0 : 12 * x.ofHedge(h, 1));
        }
        Due.is("no readings", x.many(2), 0);
        Due.is("no readings", x.back(1), Scene.OUTSIDE);
        Due.is("no readings", x.said(0, 1, 0), 127);
        Due.is("a reading is the first one", x.reading(0, 0, 0, 0), 0);
        Due.is("TRACE stays", x.trace(), 4);
        Due.is("the sheet stays", x.cell(3, 19, 2), '3');
    }

    // Terms 1: "-3 (praise) .. 3 (harsh), 0 at first"; 6: "or not at all"
    private static void wordsAtFirst() {
        WordHedges x = Due.planted("g0h00");
        for (int day = 0; day < 30; day++) {
            Due.is("0 at first", x.say(0, 1, day, -3), 10);
            Due.is("0 at first", x.say(1, 0, day, 3), 10);
            Due.is("what it said", x.say(0, 1, day, 0), 7);
            Due.is("what it said", x.say(1, 0, day, 0), 13);
            Due.is("not clipped at first", x.clip(0, day, 0), NONE);
            Due.is("clipped", x.clip(0, day, 20), 0);
            Due.is("clipped", x.clip(0, day, NONE), 20);
            Due.is("not at all", x.clip(0, day, NONE), NONE);
        }
    }

    /** The left flank of a hedge by words from day 0 on, dawn by dawn. */
    private static void grows(String text, int[] words, int... inches) {
        WordHedges x = Due.planted(text);
        for (int day = 0; day < words.length; day++) x.say(0, 1, day, words[day]);
        for (int dawn = 0; dawn < inches.length; dawn++) Due.is(text + " at dawn " + dawn, x.face(0, 0, dawn), inches[dawn]);
        Due.is(text + " on the other side", x.face(0, 1, 0), inches[0]);
    }

    private static int[] words(int... words) {
        return words;
    }

    // Terms 2: "Never below 0"
    private static void neverBelowNone() {
        for (int word = -3; word < 0; word++) {
            grows("g0h00", words(word, 1, -3, word, word, word, 1), 0, 0, 12, 3, Math.max(0, 3 + 3 * word), 0, 0, 12);
            grows("g0y00", words(word, 1, -1, word, word, word, 1), 0, 0, 6, 3, Math.max(0, 3 + 3 * word), 0, 0, 6);
            grows("g0b00", words(word, 1, word, 0, 0, word, 1), 0, 0, 6, 6, 0, 0, 0, 6);
        }
        grows("g0h10", words(-3, -1, -1, 1), 12, 3, 0, 0, 12);
        grows("g0h10", words(-3, -2, 1), 12, 3, 0, 12);
        grows("g0h10", words(-3, -3, 1), 12, 3, 0, 12);
        grows("g0b10", words(0, 0, 0, 1), 12, 6, 0, 0, 6);
    }

    // Terms 2: "nor above 240"
    private static void neverAbove240() {
        grows("g0h90", words(3, 3, 3, 2, 1, 2, 3, -1), 108, 144, 180, 216, 240, 240, 240, 240, 237);
        grows("g0h90", words(3, 3, 3, 1, 1, 1, -1), 108, 144, 180, 216, 228, 240, 240, 237);
        grows("g0h90", words(3, 3, 3, 3, -3, 1, -1), 108, 144, 180, 216, 240, 231, 240, 237);
        grows("g0h90", words(3, 3, 3, 3, -1, 1), 108, 144, 180, 216, 240, 237, 240);
        grows("g0y90", words(3, 3, 3, 3, 3, 3, 3, 3, 3, -1, 1, -2, 1), 108, 126, 144, 162, 180, 198, 216, 234, 240, 240, 237, 240, 234, 240);
        grows("g0b90", words(3, 3, 3, 3, 3, 3, 3, 1, 1, 0, 1, -3, 0, 2), 108, 126, 144, 162, 180, 198, 216, 234, 240, 240, 234, 240, 240, 234, 240);
    }

    // Terms 2: "a YEW grows half as much (cut)", by praise as others
    private static void halfOfYews() {
        grows("g0h50", words(1, 2, 3, 0, -1, -2, -3), 60, 72, 96, 132, 132, 129, 123, 114, 114);
        grows("g0y50", words(1, 2, 3, 0, -1, -2, -3), 60, 66, 78, 96, 96, 93, 87, 78, 78);
    }

    // Terms 2: "does not die back by praise, but by 6 inches on each DAY on which nothing is said beside it on that side"
    private static void brambleInSilence() {
        grows("g0b50", words(1, 2, 3, 0, -1, -2, -3, 0), 60, 66, 78, 96, 90, 90, 90, 90, 84, 78);
        WordHedges x = Due.planted("g0b50");
        for (int day = 0; day < 30; day++) x.say(1, 0, day, -1);
        Due.is("on that side alone", x.face(0, 1, 30), 60);
        Due.is("on the other one", x.face(0, 0, 9), 6);
        Due.is("on the other one", x.face(0, 0, 10), 0);
    }

    // Terms 2: "a FLANK that is higher is 12 c high"
    private static void clippedIfHigher() {
        for (int c = 0; c <= 20; c++) {
            WordHedges x = Due.planted("g0h90");
            x.say(0, 1, 4, -1);
            x.say(1, 0, 4, 1);
            x.clip(0, 4, c);
            Due.is("ahead of it", x.face(0, 0, 4), 108);
            Due.is("lower, to " + c, x.face(0, 0, 5), Math.min(105, 12 * c));
            Due.is("higher, to " + c, x.face(0, 1, 5), Math.min(120, 12 * c));
            Due.is("from then on", x.face(0, 1, 30), Math.min(120, 12 * c));
        }
        WordHedges x = Due.planted("g0h90");
        x.clip(0, 29, 8);
        Due.is("ahead of the last day", x.face(0, 0, 29), 108);
        Due.is("on the last day", x.face(0, 0, 30), 96);
        x.clip(0, 0, 9);
        Due.is("just so high", x.face(0, 0, 1), 108);
        x.clip(0, 0, 8);
        Due.is("on the first day", x.face(0, 0, 1), 96);
        Due.is("not at dawn 0", x.face(0, 0, 0), 108);
        x.clip(0, 0, NONE);
        Due.is("not at all", x.face(0, 0, 1), 108);
    }

    // Terms 2: "On a DAY, in order: ... what is said ... Then, if it is CLIPPED"
    private static void clippedBehindTheWord() {
        WordHedges x = Due.planted("g0h30b30");
        x.clip(0, 0, 4);
        x.say(0, 1, 0, 3);
        x.say(1, 0, 0, -3);
        Due.is("grown, then clipped", x.face(0, 0, 1), 48);
        Due.is("less, then not clipped", x.face(0, 1, 1), 27);
        x.clip(1, 0, 0);
        x.say(1, 1, 0, 3);
        Due.is("grown, then clipped to 0", x.face(1, 0, 1), 0);
        Due.is("died back, then clipped to 0", x.face(1, 1, 1), 0);
    }

    // Terms 2: "At DAWN n so many DAYS are over (0 .. 30)"
    private static void daysAndDawns() {
        for (int day = 0; day < 30; day++) {
            WordHedges x = Due.planted("g0h10");
            x.say(0, 1, day, 1);
            for (int dawn = 0; dawn <= 30; dawn++) Due.is("day " + day + " at dawn " + dawn, x.face(0, 0, dawn), dawn > day ? 24 : 12);
            x.say(0, 1, day, 0);
            Due.is("unsaid", x.face(0, 0, 30), 12);
        }
        WordHedges x = Due.planted("g0b90");
        for (int dawn = 0; dawn <= 30; dawn++) Due.is("dawn " + dawn, x.face(0, 0, dawn), Math.max(0, 108 - 6 * dawn));
    }

    // Terms 2: "HEIGHT of a HEDGE: the lesser of both FLANKS"
    private static void lesserFlank() {
        WordHedges x = Due.planted("g0h20");
        Due.is("both alike", x.height(0, 0, 0), 24);
        x.say(0, 1, 0, -1);
        Due.is("the left one", x.height(0, 1, 0), 21);
        x.say(1, 0, 1, -2);
        Due.is("the right one", x.height(0, 2, 0), 18);
    }

    // Terms 2: "LEAN: the left one less the right one"; 8: "LEAN, and 1000"
    private static void leans() {
        WordHedges x = Due.planted("g0h00h00");
        for (int day = 0; day < 7; day++) {
            x.say(0, 1, day, 3);
            x.say(2, 0, day, 3);
        }
        Due.is("none", x.height(0, 0, 1), 1000);
        Due.is("the greatest", x.height(0, 30, 1), 1240);
        Due.is("the least", x.height(1, 30, 1), 760);
        x.clip(0, 29, 0);
        Due.is("none again", x.height(0, 30, 1), 1000);
    }

    /** A garden between two hedges whose flanks are lower by praise on day 0 (h), the light there at dawn 1. */
    private static int lightBetween(String text, int left, int right) {
        WordHedges x = Due.planted(text);
        x.say(0, 1, 0, left);
        x.say(1, 0, 0, left);
        x.say(1, 1, 0, right);
        x.say(2, 0, 0, right);
        return x.light(1, 1);
    }

    // Terms 2: "20, less HEIGHTS of the HEDGES beside it in whole feet (cut)"
    private static void lightInWholeFeet() {
        Due.is("whole feet", lightBetween("g0h20h30", 0, 0), 15);
        Due.is("21 inches", lightBetween("g0h20h30", -1, 0), 16);
        Due.is("15 inches", lightBetween("g0h20h30", -3, 0), 16);
        Due.is("21 and 33 inches, each cut", lightBetween("g0h20h30", -1, -1), 17);
        Due.is("yews, 18 inches each", lightBetween("g0y10y10", 1, 1), 18);
        Due.is("3 inches", lightBetween("g0h10h00", -3, 0), 20);
        Due.is("none", lightBetween("g0h00h00", 0, 0), 20);
        WordHedges x = Due.planted("g0h20h30");
        Due.is("the first one has one hedge", x.light(0, 0), 18);
        Due.is("the last one has one hedge", x.light(2, 0), 17);
        x.say(0, 1, 0, 3);
        Due.is("the lesser flank", x.light(0, 1), 18);
    }

    // Terms 2: "0 at least"
    private static void lightNoneAtLeast() {
        WordHedges x = Due.planted("g0h90h90");
        for (int[] flank : new int[][] {{0, 1}, {1, 0}}) {
            x.say(flank[0], flank[1], 0, 1);
            x.say(flank[0], flank[1], 1, 1);
            for (int day = 2; day < 6; day++) x.say(flank[0], flank[1], day, 3);
        }
        Due.is("9 and 9", x.light(1, 0), 2);
        Due.is("10 and 9", x.light(1, 1), 1);
        Due.is("11 and 9", x.light(1, 2), 0);
        Due.is("14 and 9", x.light(1, 3), 0);
        Due.is("20 and 9", x.light(1, 30), 0);
        Due.is("17", x.light(0, 4), 3);
        Due.is("20", x.light(0, 30), 0);
    }

    // Terms 2: "GOATS come over a HEDGE lower than 36 inches"
    private static void goatsBelow36() {
        WordHedges x = Due.planted("g0h30");
        Due.is("36 inches", x.goats(0), 1);
        x.say(0, 1, 0, -1);
        Due.is("a flank of 33", x.goats(1), 3);
        x.say(1, 0, 1, 3);
        Due.is("the other one of 72", x.goats(2), 3);
        x.say(0, 1, 2, 1);
        Due.is("45 inches", x.goats(3), 1);
        Due.is("0 inches", Due.planted("g0h00").goats(0), 3);
    }

    // Terms 2: "they come as far to the right as all HEDGES between are so low"; 10: "(0, too)"
    private static void goatsAsFar() {
        for (int high = -1; high < 6; high++) {
            StringBuilder text = new StringBuilder("g0");
            for (int h = 0; h < 6; h++) text.append(h == high ? "h30" : "h20");
            WordHedges x = Due.planted(text.toString());
            int last = high < 0 ? 6 : high;
            Due.is("a hedge of 36 inches at " + high, x.goats(0), (2 << last) - 1);
            for (int g = 0; g < 7; g++) Due.is("off of " + g, x.off(g, 0), g <= last ? 1 : 2);
        }
    }

    // Terms 4: "1 for LIGHT no less than it WANTS, 1 more if no GOATS come to the GARDEN"
    private static void lightNoLess() {
        for (int want = 0; want <= 9; want++) {
            WordHedges x = Due.planted("g0h6" + want + "h60");
            Due.is("light 8, " + want + " wanted", x.off(1, 0), want <= 8 ? 2 : 1);
            WordHedges y = Due.planted("g0h2" + want + "h90");
            Due.is("light 9 and goats, " + want + " wanted", y.off(1, 0), 1);
            Due.is("light 20 and goats", y.off(0, 0), 1);
        }
        WordHedges x = Due.planted("g9h90");
        for (int day = 0; day < 4; day++) {
            x.say(0, 1, day, 3);
            x.say(1, 0, day, 3);
        }
        Due.is("light 11", x.off(0, 0), 1);
        Due.is("light 2, 9 wanted, and goats", x.off(0, 3), 0);
        Due.is("light 2, 0 wanted, no goats", x.off(1, 3), 2);
        Due.is("no hedge 1", x.off(2, 3), UNKNOWN);
    }
}
