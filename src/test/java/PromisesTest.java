/** Each promise by cases worked out by hand from the document: ordinary ones, its edges, wrong inputs. */
public final class PromisesTest {
    private static final int UNKNOWN = -1, OUTSIDE = -2, STATE = -3, FULL = -4, NONE = -9;
    private static final int NULL = -11, CAST = -12, INDEX = -13, SIZE = -14;
    private static final long LOST = Long.MIN_VALUE;
    private static final int FAR = Integer.MAX_VALUE, LOW = Integer.MIN_VALUE;
    private static final String FIVE = "g5h39y48b27h55";

    public static void main(String[] args) {
        newObject();
        gardensByTexts();
        gardensRefused();
        gardensAnew();
        wantsAndHedges();
        saying();
        clipping();
        growing();
        yewsAndBrambles();
        clippedFlanks();
        heights();
        lights();
        goatsAndOff();
        scolding();
        scoldingRefused();
        readings();
        saidByRings();
        quarrels();
        quarrelsRefused();
        peaces();
        rounds();
        fining();
        means();
        sheets();
        cells();
        copies();
        tellings();
        kinds();
        faults();
        manies();
        withoutGardens();
        Due.end();
    }

    // Promise 1
    private static void newObject() {
        WordHedges x = new WordHedges();
        for (int what = 0; what < 3; what++) Due.is("new many", x.many(what), 0);
        Due.is("new trace", x.trace(), 0);
        Due.is("new fault", x.fault(), 0);
        for (int k = 0; k < 4; k++) Due.is("new lose", x.lose(k), 0);
        Due.is("new wants", x.wants(0), UNKNOWN);
        Due.is("LOST", WordHedges.LOST, LOST);
        Due.is("FULL", WordHedges.FULL, FULL);
    }

    // Promise 2
    private static void gardensByTexts() {
        WordHedges x = new WordHedges();
        String seven = "g9h98y87b76h65y54b43";
        Due.is("two", Due.told(x, 0, "g0h00"), 2);
        Due.is("seven", Due.told(x, 0, seven), 7);
        String[] wrong = {"", "g", "x", "g5", "g5h", "g5h3", "g5h3x", "g55", "g5x", "g5h39y", "g5h39y4", "gh", "g/h00",
            "g:h00", "g5H39", "G5h39", "g5h393", "g5hh", seven + "h", seven + "h1", seven + "h11", seven + "1", "g5h/9", "g5h:9"};
        int[] places = {0, 1, 0, 2, 3, 4, 4, 2, 2, 6, 7, 1, 1, 1, 2, 0, 5, 3, 20, 20, 20, 20, 3, 3};
        for (int k = 0; k < wrong.length; k++) {
            Due.is("text " + wrong[k], Due.told(x, 1, wrong[k]), -100 - places[k]);
            Due.is("fault of text " + wrong[k], x.fault(), 0);
            Due.is("kept by text " + wrong[k], x.many(0), 7);
        }
        x.sheet(2, 2, 5);
        int[] far = {103 + 65536, '0', 'h', '0', '0'};
        for (int i = 0; i < 5; i++) x.put(2, i, far[i]);
        Due.is("an int is whole", x.gardens(2, 2, 0, 5), -100);
        x.sheet(2, 1, 5);
        for (int i = 0; i < 5; i++) x.put(2, i, far[i]);
        Due.is("a short is cut", x.gardens(2, 1, 0, 5), 2);
        x.sheet(2, 0, 8);
        for (int i = 0; i < 5; i++) x.put(2, i + 3, far[i] + 256);
        Due.is("a byte is cut", x.gardens(2, 0, 3, 5), 2);
        Due.is("places from i on", x.gardens(2, 0, 3, 4), -104);
        Due.is("the whole row", x.gardens(2, 0, 0, 8), -100);
    }

    // Promise 2
    private static void gardensRefused() {
        WordHedges x = Due.planted(FIVE);
        x.sheet(1, 1, 5);
        Due.is("no sheet", x.gardens(4, 9, 0, 1), UNKNOWN);
        Due.is("no sheet", x.gardens(-1, 0, 0, 1), UNKNOWN);
        Due.is("lane", x.gardens(1, 3, 0, 1), OUTSIDE);
        Due.is("lane", x.gardens(0, -1, 0, 1), OUTSIDE);
        Due.is("cast ahead of size", x.gardens(1, 2, -1, -1), CAST);
        Due.is("nothing is no cast", x.gardens(0, 2, -1, -1), NULL);
        Due.is("size ahead of index", x.gardens(1, 1, -1, -1), SIZE);
        Due.is("size", x.gardens(1, 1, 0, LOW), SIZE);
        Due.is("index", x.gardens(1, 1, -1, 0), INDEX);
        Due.is("index", x.gardens(1, 1, 6, 0), INDEX);
        Due.is("none behind the last", x.gardens(1, 1, 5, 0), -100);
        Due.is("index", x.gardens(1, 1, 5, 1), INDEX);
        Due.is("index", x.gardens(1, 1, 1, FAR), INDEX);
        Due.is("index", x.gardens(1, 1, FAR, FAR), INDEX);
        Due.is("kept", x.many(0), 5);
    }

    // Promise 2: a text that is taken makes all anew, one that is not changes nothing
    private static void gardensAnew() {
        WordHedges x = Due.planted("g1h22h33");
        x.say(0, 1, 0, 3);
        x.clip(1, 5, 1);
        x.reading(0, 0, 0, 24);
        x.tell(0);
        Due.is("bad text", Due.told(x, 0, "g1h22h3"), -107);
        Due.is("words kept", x.face(0, 0, 1), 60);
        Due.is("clips kept", x.clip(1, 5, 1), 1);
        Due.is("readings kept", x.many(2), 1);
        Due.is("good text", Due.told(x, 0, "g1h22h33"), 3);
        Due.is("no words", x.say(0, 1, 0, 0), 10);
        Due.is("no words", x.face(0, 0, 1), 24);
        Due.is("no clips", x.clip(1, 5, NONE), NONE);
        Due.is("no clips", x.face(1, 0, 6), 36);
        Due.is("no readings", x.many(2), 0);
        Due.is("trace goes on", x.trace(), 1);
        Due.is("fewer", Due.told(x, 0, "g1h22"), 2);
        Due.is("hedge 1 is gone", x.ofHedge(1, 0), UNKNOWN);
        Due.is("hedge 1 is gone", x.goats(0), 3);
        Due.is("hedge 1 is gone", x.round(0, 2), 0);
        Due.is("hedge 1 is gone", x.fines(-1, 0), 60);
        Due.is("hedge 1 is gone", x.mean(0, 0), 24);
        Due.is("hedge 1 is gone", x.mean(0, 1), 1);
    }

    // Promises 3, 4
    private static void wantsAndHedges() {
        WordHedges x = Due.planted("g0h97y08b59");
        int[] wants = {0, 7, 8, 9}, highs = {9, 0, 5};
        for (int g = 0; g < 4; g++) Due.is("wants", x.wants(g), wants[g]);
        Due.is("wants", x.wants(4), UNKNOWN);
        Due.is("wants", x.wants(-1), UNKNOWN);
        for (int h = 0; h < 3; h++) {
            Due.is("kind", x.ofHedge(h, 0), h);
            Due.is("high", x.ofHedge(h, 1), highs[h]);
        }
        Due.is("what", x.ofHedge(2, 2), OUTSIDE);
        Due.is("what", x.ofHedge(0, -1), OUTSIDE);
        Due.is("hedge", x.ofHedge(3, 2), UNKNOWN);
        Due.is("hedge", x.ofHedge(-1, 0), UNKNOWN);
        Due.is("hedge", x.ofHedge(FAR, 0), UNKNOWN);
    }

    // Promise 5
    private static void saying() {
        WordHedges x = Due.planted(FIVE);
        Due.is("say", x.say(1, 0, 29, -3), 10);
        Due.is("say", x.say(1, 0, 29, 3), 7);
        Due.is("say", x.say(1, 0, 29, 0), 13);
        Due.is("say", x.say(1, 1, 29, 1), 10);
        Due.is("garden first", x.say(5, 2, 30, 4), UNKNOWN);
        Due.is("side", x.say(0, 2, 0, 0), OUTSIDE);
        Due.is("side", x.say(0, -1, 0, 0), OUTSIDE);
        Due.is("day", x.say(0, 1, 30, 0), OUTSIDE);
        Due.is("day", x.say(0, 1, -1, 0), OUTSIDE);
        Due.is("word", x.say(0, 1, 0, 4), OUTSIDE);
        Due.is("word", x.say(0, 1, 0, -4), OUTSIDE);
        Due.is("word", x.say(0, 1, 0, LOW), OUTSIDE);
        Due.is("outside ahead of the hedge", x.say(0, 0, 0, 4), OUTSIDE);
        Due.is("no hedge", x.say(0, 0, 0, 1), UNKNOWN);
        Due.is("no hedge", x.say(4, 1, 0, 1), UNKNOWN);
        Due.is("nothing changed", x.face(0, 0, 30), 36);
    }

    // Promise 6
    private static void clipping() {
        WordHedges x = Due.planted(FIVE);
        Due.is("clip", x.clip(0, 0, 20), NONE);
        Due.is("clip", x.clip(0, 0, 0), 20);
        Due.is("clip", x.clip(0, 0, NONE), 0);
        Due.is("clip", x.clip(0, 0, NONE), NONE);
        Due.is("hedge first", x.clip(4, 30, 21), UNKNOWN);
        Due.is("day", x.clip(0, 30, 0), OUTSIDE);
        Due.is("day", x.clip(0, -1, 0), OUTSIDE);
        Due.is("feet", x.clip(0, 0, 21), OUTSIDE);
        Due.is("feet", x.clip(0, 0, -1), OUTSIDE);
        Due.is("feet", x.clip(0, 0, -10), OUTSIDE);
        Due.is("nothing changed", x.clip(0, 0, NONE), NONE);
    }

    private static void faces(WordHedges x, int h, int side, int... inches) {
        for (int dawn = 0; dawn < inches.length; dawn++) {
            Due.is("face of " + h + " side " + side + " at " + dawn, x.face(h, side, dawn), inches[dawn]);
        }
    }

    // Promise 7
    private static void growing() {
        WordHedges x = Due.planted("g0h90h00");
        for (int day = 0; day < 5; day++) x.say(0, 1, day, 3);
        x.say(0, 1, 5, -3);
        x.say(0, 1, 6, -1);
        x.say(1, 0, 0, 1);
        x.say(1, 0, 1, 2);
        x.say(1, 1, 0, -3);
        x.say(1, 1, 1, 1);
        x.say(1, 1, 2, -3);
        x.say(1, 1, 3, -1);
        faces(x, 0, 0, 108, 144, 180, 216, 240, 240, 231, 228, 228);
        faces(x, 0, 1, 108, 120, 144, 144);
        faces(x, 1, 0, 0, 0, 12, 3, 0, 0);
        faces(x, 1, 1, 0, 0, 0);
        Due.is("hedge first", x.face(2, 2, 31), UNKNOWN);
        Due.is("side", x.face(0, 2, 0), OUTSIDE);
        Due.is("side", x.face(0, -1, 0), OUTSIDE);
        Due.is("dawn", x.face(0, 0, 31), OUTSIDE);
        Due.is("dawn", x.face(0, 0, -1), OUTSIDE);
        Due.is("last dawn", x.face(0, 0, 30), 228);
        x.say(0, 1, 29, 1);
        Due.is("last day", x.face(0, 0, 29), 228);
        Due.is("last dawn", x.face(0, 0, 30), 240);
    }

    // Promise 7: kinds
    private static void yewsAndBrambles() {
        WordHedges x = Due.planted("g0y20b20");
        int[] words = {1, 2, 3, 0, -1, -2, -3};
        for (int day = 0; day < 7; day++) {
            x.say(0, 1, day, words[day]);
            x.say(1, 1, day, words[day]);
        }
        faces(x, 0, 0, 24, 30, 42, 60, 60, 57, 51, 42, 42);
        faces(x, 0, 1, 24, 24, 24);
        faces(x, 1, 0, 24, 30, 42, 60, 54, 54, 54, 54, 48, 42, 36);
        faces(x, 1, 1, 24, 18, 12, 6, 0, 0);
    }

    // Promise 7: clips
    private static void clippedFlanks() {
        WordHedges x = Due.planted("g0h30b10");
        x.say(0, 1, 0, 3);
        x.clip(0, 0, 5);
        x.say(0, 1, 1, -1);
        x.clip(0, 2, 4);
        x.clip(0, 3, 0);
        x.say(0, 1, 4, 1);
        x.clip(0, 5, 20);
        faces(x, 0, 0, 36, 60, 57, 48, 0, 12, 12);
        faces(x, 0, 1, 36, 36, 36, 36, 0, 0, 0);
        x.clip(0, 3, NONE);
        faces(x, 0, 0, 36, 60, 57, 48, 48, 60, 60);
        faces(x, 0, 1, 36, 36, 36, 36, 36, 36, 36);
        faces(x, 1, 0, 12, 6, 0, 0);
    }

    // Promise 8
    private static void heights() {
        WordHedges x = Due.planted("g0h20h20");
        x.say(0, 1, 0, 3);
        x.say(1, 0, 0, -2);
        x.say(2, 0, 0, 1);
        Due.is("height", x.height(0, 0, 0), 24);
        Due.is("height", x.height(0, 1, 0), 18);
        Due.is("lean", x.height(0, 1, 1), 1042);
        Due.is("height", x.height(1, 1, 0), 24);
        Due.is("lean", x.height(1, 30, 1), 988);
        Due.is("hedge first", x.height(2, 31, 2), UNKNOWN);
        Due.is("dawn", x.height(0, 31, 0), OUTSIDE);
        Due.is("dawn", x.height(0, -1, 0), OUTSIDE);
        Due.is("what", x.height(0, 0, 2), OUTSIDE);
        Due.is("what", x.height(0, 0, -1), OUTSIDE);
    }

    // Promise 9
    private static void lights() {
        WordHedges x = Due.planted("g0y20y20h90");
        int[][] flanks = {{0, 1}, {1, 0}, {1, 1}, {2, 0}};
        for (int[] f : flanks) x.say(f[0], f[1], 0, 1);
        int[] before = {18, 16, 9, 11}, after = {18, 16, 9, 11};
        for (int g = 0; g < 4; g++) {
            Due.is("light", x.light(g, 0), before[g]);
            Due.is("light, each hedge cut by itself", x.light(g, 1), after[g]);
        }
        for (int day = 0; day < 30; day++) {
            for (int g = 0; g < 4; g++) {
                x.say(g, 0, day, 3);
                x.say(g, 1, day, 3);
            }
        }
        Due.is("none is left", x.light(0, 30), 0);
        Due.is("0 at least", x.light(1, 30), 0);
        Due.is("garden first", x.light(4, 31), UNKNOWN);
        Due.is("garden", x.light(-1, 0), UNKNOWN);
        Due.is("dawn", x.light(0, 31), OUTSIDE);
        Due.is("dawn", x.light(0, -1), OUTSIDE);
    }

    // Promises 10, 11
    private static void goatsAndOff() {
        WordHedges x = Due.planted("g9h29h29h30h09");
        Due.is("goats", x.goats(0), 7);
        int[] off = {1, 1, 1, 2, 2};
        for (int g = 0; g < 5; g++) Due.is("off", x.off(g, 0), off[g]);
        x.say(2, 1, 0, -1);
        Due.is("35 inches and less", x.goats(1), 31);
        Due.is("off", x.off(4, 1), 1);
        x.say(0, 1, 1, 1);
        Due.is("one flank is low", x.goats(2), 31);
        x.say(1, 0, 1, 1);
        Due.is("36 inches", x.goats(2), 1);
        Due.is("off", x.off(1, 2), 2);
        Due.is("dawn", x.goats(31), OUTSIDE);
        Due.is("dawn", x.goats(-1), OUTSIDE);
        Due.is("garden first", x.off(5, 31), UNKNOWN);
        Due.is("dawn", x.off(0, 31), OUTSIDE);
        Due.is("dawn", x.off(0, -1), OUTSIDE);
        WordHedges y = Due.planted("g0h69h60");
        Due.is("light 8, wants 9", y.off(1, 0), 1);
        y.say(1, 0, 0, -1);
        Due.is("light 9, wants 9", y.off(1, 1), 2);
        WordHedges z = Due.planted("g0h99h10");
        Due.is("light 9 wanted, 10 there", z.off(1, 0), 2);
    }

    // Promise 12
    private static void scolding() {
        WordHedges x = Due.planted("g0h00");
        Due.is("0 feet", x.scold(0, 0, -1, 0), 0);
        Due.is("each a word", x.scold(0, 1, -1, 0), 2);
        Due.is("each three", x.scold(29, 3, -1, 1), 6);
        Due.is("none is enough", x.scold(0, 4, -1, 0), NONE);
        x.say(0, 1, 0, -3);
        Due.is("from -3 on", x.scold(0, 1, -1, 0), 5);
        Due.is("is kept", x.scold(0, 0, 0, 0), 7);
        x.say(0, 1, 0, 2);
        Due.is("no less", x.scold(0, 1, 0, 0), 12);
        Due.is("no more", x.scold(0, 1, -1, 0), 1);
        Due.is("one flank alone", x.scold(0, 5, 0, 0), NONE);
        x.say(0, 1, 1, 2);
        Due.is("one flank alone", x.scold(0, 5, 0, 0), 13);
        Due.is("the other flank", x.scold(0, 5, 0, 1), NONE);
        Due.is("the other flank", x.scold(0, 5, -1, 0), NONE);
        x.clip(0, 29, 0);
        Due.is("clipped later", x.scold(0, 1, -1, 0), NONE);
        Due.is("clipped later", x.scold(0, 0, -1, 0), 0);
        Due.is("words are as told", x.say(0, 1, 0, 2), 12);
        WordHedges b = Due.planted("g0b20");
        for (int day = 0; day < 30; day++) b.say(0, 1, day, -1);
        Due.is("praise keeps a bramble", b.scold(29, 2, 0, 0), 9);
        Due.is("by two", b.scold(29, 3, 0, 0), 12);
        Due.is("by none", b.scold(29, 4, 0, 0), NONE);
        b.say(0, 1, 29, -3);
        Due.is("the least word", b.scold(29, 2, 0, 0), 7);
        b.say(0, 1, 29, 0);
        Due.is("silence does not keep it", b.scold(29, 2, 0, 0), 11);
    }

    // Promise 12
    private static void scoldingRefused() {
        WordHedges x = Due.planted(FIVE);
        Due.is("hedge first", x.scold(30, 21, 4, 2), UNKNOWN);
        Due.is("hedge", x.scold(0, 0, -2, 0), UNKNOWN);
        Due.is("day", x.scold(30, 0, -1, 0), OUTSIDE);
        Due.is("day", x.scold(-1, 0, 0, 0), OUTSIDE);
        Due.is("feet", x.scold(0, 21, 0, 0), OUTSIDE);
        Due.is("feet", x.scold(0, -1, -1, 0), OUTSIDE);
        Due.is("side", x.scold(0, 0, 0, 2), OUTSIDE);
        Due.is("side, of all, too", x.scold(0, 0, -1, 2), OUTSIDE);
        Due.is("side, of all, too", x.scold(0, 0, -1, -1), OUTSIDE);
    }

    // Promises 13, 14
    private static void readings() {
        WordHedges x = Due.planted(FIVE);
        for (int k = 0; k < 10; k++) Due.is("reading", x.reading(k % 4, k % 2, 3 * k, 24 * k), k);
        Due.is("full", x.reading(0, 0, 0, 0), FULL);
        Due.is("outside ahead of full", x.reading(0, 0, 31, 0), OUTSIDE);
        Due.is("hedge first", x.reading(4, 2, 31, 241), UNKNOWN);
        Due.is("back too many", x.back(11), OUTSIDE);
        Due.is("back", x.back(-1), OUTSIDE);
        Due.is("back none", x.back(0), 10);
        Due.is("back", x.back(3), 7);
        Due.is("back too many", x.back(8), OUTSIDE);
        Due.is("reading", x.reading(0, 0, 30, 240), 7);
        Due.is("back all", x.back(8), 0);
        Due.is("side", x.reading(0, 2, 0, 0), OUTSIDE);
        Due.is("side", x.reading(0, -1, 0, 0), OUTSIDE);
        Due.is("dawn", x.reading(0, 0, -1, 0), OUTSIDE);
        Due.is("inches", x.reading(0, 0, 0, 241), OUTSIDE);
        Due.is("inches", x.reading(0, 0, 0, -1), OUTSIDE);
        Due.is("hedge", x.reading(-1, 0, 0, 0), UNKNOWN);
        Due.is("none came in", x.many(2), 0);
    }

    // Promise 15
    private static void saidByRings() {
        WordHedges x = Due.planted("g0h00b20");
        Due.is("no readings", x.said(0, 1, 0), 127);
        x.reading(0, 0, 1, 0);
        Due.is("never below 0", x.said(0, 1, 0), 15);
        x.reading(0, 0, 2, 24);
        Due.is("not as told else", x.said(0, 1, 0), 0);
        Due.is("by this one", x.said(0, 1, 1), 32);
        x.say(0, 1, 1, 2);
        Due.is("both are so", x.said(0, 1, 0), 15);
        Due.is("of another flank", x.said(1, 0, 0), 127);
        Due.is("behind all", x.said(0, 1, 2), 127);
        x.reading(1, 1, 3, 12);
        Due.is("a bramble: by praise on one day", x.said(2, 0, 2), 7);
        Due.is("a bramble of which another reading is not so", x.said(0, 1, 2), 0);
        x.back(1);
        x.reading(1, 1, 3, 18);
        Due.is("a bramble: grown on one day", x.said(2, 0, 0), 16);
        x.back(1);
        x.reading(1, 0, 0, 25);
        Due.is("a reading that was never so", x.said(1, 1, 0), 0);
        Due.is("a reading that was never so", x.said(1, 0, 0), 0);
        WordHedges y = Due.planted("g0h50");
        y.clip(0, 2, 4);
        y.reading(0, 0, 3, 48);
        Due.is("clipped off", y.said(0, 1, 0), 127);
        y.reading(0, 0, 1, 60);
        Due.is("two readings", y.said(0, 1, 0), 8);
        Due.is("garden first", y.said(2, 2, 30), UNKNOWN);
        Due.is("side", y.said(0, 2, 0), OUTSIDE);
        Due.is("day", y.said(0, 1, 30), OUTSIDE);
        Due.is("outside ahead of the hedge", y.said(0, 0, -1), OUTSIDE);
        Due.is("no hedge", y.said(0, 0, 0), UNKNOWN);
        Due.is("no hedge", y.said(1, 1, 0), UNKNOWN);
    }

    // Promise 16
    private static void quarrels() {
        WordHedges x = Due.planted("g0h69h60");
        Due.is("for light", x.quarrel(0, 0, 0, 1), 9);
        Due.is("content", x.quarrel(0, 0, 0, 0), 10);
        Due.is("light is had", x.quarrel(0, 0, 1, 1), 10);
        Due.is("the left one's light", x.quarrel(1, 0, 0, 0), 9);
        x.say(1, 1, 3, -1);
        Due.is("else as told", x.quarrel(0, 3, 3, 1), 10);
        Due.is("else as told", x.quarrel(0, 2, 2, 1), 9);
        x.say(2, 0, 9, -1);
        x.say(1, 1, 3, 0);
        Due.is("the other one, quiet, keeps it low", x.quarrel(1, 10, 10, 0), 10);
        WordHedges y = Due.planted("g0h20");
        y.say(0, 1, 0, 1);
        Due.is("against goats", y.quarrel(0, 1, 1, 1), 11);
        Due.is("as chosen, not as told", y.quarrel(0, 0, 1, 1), 10);
        Due.is("words are as told", y.face(0, 0, 30), 36);
        WordHedges b = Due.planted("g0b30");
        b.say(0, 1, 0, 1);
        b.say(1, 0, 0, -1);
        Due.is("-1 ahead of 1", b.quarrel(0, 1, 1, 1), 9);
        WordHedges c = Due.planted("g0h60");
        c.clip(0, 4, 2);
        Due.is("clipped", c.quarrel(0, 4, 4, 1), 10);
        c.clip(0, 5, 3);
        Due.is("not clipped by that", c.quarrel(0, 4, 5, 1), 10);
    }

    // Promise 16
    private static void quarrelsRefused() {
        WordHedges x = Due.planted(FIVE);
        Due.is("hedge first", x.quarrel(4, 30, 0, 2), UNKNOWN);
        Due.is("hedge", x.quarrel(-1, 0, 0, 0), UNKNOWN);
        Due.is("first", x.quarrel(0, -1, 0, 0), OUTSIDE);
        Due.is("last", x.quarrel(0, 0, 30, 0), OUTSIDE);
        Due.is("first", x.quarrel(0, 30, 30, 0), OUTSIDE);
        Due.is("turned", x.quarrel(0, 5, 4, 0), OUTSIDE);
        Due.is("side", x.quarrel(0, 0, 0, 2), OUTSIDE);
        Due.is("side", x.quarrel(0, 0, 0, -1), OUTSIDE);
    }

    // Promise 17
    private static void peaces() {
        WordHedges x = Due.planted("g0h69h60");
        Due.is("the middle one", x.peace(0), 2);
        x.say(1, 0, 0, -1);
        Due.is("it has said it", x.peace(0), 0);
        Due.is("it is so from then on", x.peace(1), 0);
        WordHedges y = Due.planted("g0h20h20h00");
        Due.is("one alone can't help it", y.peace(0), 0);
        y.say(0, 1, 4, 1);
        Due.is("it can now", y.peace(5), 2);
        y.say(1, 1, 5, 3);
        Due.is("to its right hedge it said 3", y.peace(5), 2 + 4);
        Due.is("last day", y.peace(29), 2 + 4);
        WordHedges z = Due.planted("g9h90");
        z.say(0, 1, 0, 3);
        z.say(1, 0, 0, 3);
        Due.is("the first one, to its right", z.peace(0), 1);
        Due.is("day", y.peace(30), OUTSIDE);
        Due.is("day", y.peace(-1), OUTSIDE);
    }

    // Promise 18
    private static void rounds() {
        WordHedges x = Due.planted("g0h00h00h00");
        Due.is("nothing to clip", x.round(0, 0), 0);
        x.say(0, 1, 0, 1);
        Due.is("at his feet", x.round(1, 0), 1);
        x.say(2, 1, 1, 1);
        Due.is("two gardens on", x.round(2, 0), 4);
        x.say(3, 0, 2, 1);
        x.say(3, 0, 3, -1);
        Due.is("begun feet of both flanks", x.round(4, 0), 5);
        Due.is("of one foot", x.round(4, 1), 0);
        x.say(2, 1, 4, 1);
        Due.is("one flank alone", x.round(5, 1), 3);
        Due.is("20 feet", x.round(30, 20), 0);
        Due.is("dawn", x.round(31, 0), OUTSIDE);
        Due.is("dawn", x.round(-1, 0), OUTSIDE);
        Due.is("c", x.round(0, 21), OUTSIDE);
        Due.is("c", x.round(0, -1), OUTSIDE);
    }

    // Promise 19
    private static void fining() {
        WordHedges x = Due.planted("g0h30");
        Due.is("odd coins by the left one", x.fines(0, 0), 60);
        Due.is("the right one", x.fines(1, 2), 30);
        Due.is("all", x.fines(-1, 2), 90);
        Due.is("not above", x.fines(-1, 3), 0);
        x.say(1, 0, 29, 1);
        Due.is("one odd coin by the right one", x.fines(0, 0), 59);
        Due.is("one odd coin by the right one", x.fines(1, 0), 31);
        x.say(0, 1, 29, 1);
        Due.is("4 feet at the last dawn", x.fines(-1, 3), 4);
        Due.is("halves", x.fines(1, 3), 2);
        WordHedges y = Due.planted("g0y00h50");
        y.say(0, 1, 0, 1);
        y.say(1, 0, 0, 1);
        Due.is("no whole foot", y.fines(0, 0), 0);
        y.say(0, 1, 0, 3);
        y.say(1, 0, 0, 3);
        Due.is("a foot and a half, above 1", y.fines(0, 1), 30);
        Due.is("between two hedges", y.fines(1, 1), 90);
        Due.is("the last one", y.fines(2, 1), 60);
        Due.is("garden first", y.fines(3, 21), UNKNOWN);
        Due.is("garden", y.fines(-2, 0), UNKNOWN);
        Due.is("c", y.fines(-1, 21), OUTSIDE);
        Due.is("c", y.fines(0, -1), OUTSIDE);
    }

    // Promise 20
    private static void means() {
        WordHedges x = Due.planted("g0y00h00h00h00");
        Due.is("none", x.mean(0, 0), 0);
        Due.is("none", x.mean(0, 1), 1);
        x.say(0, 1, 0, 1);
        Due.is("the lesser flank", x.mean(1, 0), 0);
        x.say(1, 0, 0, 1);
        Due.is("least terms", x.mean(1, 0), 3);
        Due.is("least terms", x.mean(1, 1), 2);
        x.say(1, 0, 1, -1);
        Due.is("no divisor", x.mean(2, 0), 3);
        Due.is("no divisor", x.mean(30, 1), 4);
        x.say(3, 1, 1, 1);
        x.say(4, 0, 1, 1);
        Due.is("the last hedge, too", x.mean(2, 0), 15);
        Due.is("dawn", x.mean(31, 0), LOST);
        Due.is("dawn", x.mean(-1, 0), LOST);
        Due.is("which", x.mean(0, 2), LOST);
        Due.is("which", x.mean(0, -1), LOST);
    }

    // Promises 21, 22, 23
    private static void sheets() {
        WordHedges x = new WordHedges();
        Due.is("sheet", x.sheet(0, 0, 60), 1);
        Due.is("put", x.put(0, 59, 128), 1);
        Due.is("cut to a byte", x.cell(0, 59, 0), -128);
        Due.is("sheet", x.sheet(0, 1, 60), 1);
        Due.is("a new row", x.cell(0, 59, 1), 0);
        x.put(0, 0, 98304);
        Due.is("cut to a short", x.cell(0, 0, 1), -32768);
        x.sheet(3, 2, 1);
        x.put(3, 0, LOW);
        Due.is("an int", x.cell(3, 0, 2), LOW);
        Due.is("empty row", x.sheet(3, 2, 0), 1);
        Due.is("empty row", x.put(3, 0, 1), INDEX);
        Due.is("unknown first", x.sheet(4, 3, 61), UNKNOWN);
        Due.is("unknown", x.sheet(-1, 0, 0), UNKNOWN);
        Due.is("lane", x.sheet(0, 3, -1), OUTSIDE);
        Due.is("lane", x.sheet(0, -1, 1), OUTSIDE);
        Due.is("too long", x.sheet(0, 0, 61), OUTSIDE);
        Due.is("size", x.sheet(0, 0, -1), SIZE);
        Due.is("it keeps its row", x.cell(0, 0, 1), -32768);
        Due.is("lose", x.lose(0), 1);
        Due.is("lost", x.lose(0), 0);
        Due.is("lose an empty row", x.lose(3), 1);
        Due.is("lose", x.lose(4), UNKNOWN);
        Due.is("lose", x.lose(-1), UNKNOWN);
        Due.is("put", x.put(4, -1, 0), UNKNOWN);
        Due.is("put", x.put(0, -1, 0), NULL);
        x.sheet(0, 2, 2);
        Due.is("put", x.put(0, -1, 0), INDEX);
        Due.is("put", x.put(0, 2, 0), INDEX);
        Due.is("put", x.put(0, 1, 0), 1);
    }

    // Promise 24
    private static void cells() {
        WordHedges x = new WordHedges();
        x.sheet(1, 1, 2);
        x.put(1, 1, -7);
        Due.is("cell", x.cell(1, 1, 1), -7);
        int[][] lost = {{4, 0, 0, 0}, {-1, 0, 3, 0}, {1, 0, 3, 0}, {1, 0, -1, 0}, {1, 5, 0, 2}, {0, 5, 0, 1}, {1, 2, 1, 3}, {1, -1, 1, 3}};
        for (int[] c : lost) {
            x.cell(1, 5, 0);
            Due.is("cell " + c[0] + " " + c[1] + " " + c[2], x.cell(c[0], c[1], c[2]), LOST);
            Due.is("fault of it", x.fault(), c[3]);
        }
    }

    private static void row(WordHedges x, int k, int lane, int... numbers) {
        x.sheet(k, lane, numbers.length);
        for (int i = 0; i < numbers.length; i++) x.put(k, i, numbers[i]);
    }

    private static void isRow(WordHedges x, int k, int lane, int... numbers) {
        for (int i = 0; i < numbers.length; i++) Due.is("cell " + i + " of " + k, x.cell(k, i, lane), numbers[i]);
    }

    // Promise 25
    private static void copies() {
        WordHedges x = new WordHedges();
        row(x, 0, 0, 1, 2, 3, 4, 5);
        row(x, 1, 0, 6, 7, 8);
        row(x, 2, 1, 9);
        Due.is("up", x.copy(0, 0, 0, 1, 4), 4);
        isRow(x, 0, 0, 1, 1, 2, 3, 4);
        Due.is("down", x.copy(0, 2, 0, 0, 3), 3);
        isRow(x, 0, 0, 2, 3, 4, 3, 4);
        Due.is("to another", x.copy(0, 1, 1, 1, 2), 2);
        isRow(x, 1, 0, 6, 3, 4);
        Due.is("none", x.copy(0, 5, 1, 3, 0), 0);
        Due.is("unknown", x.copy(4, 0, 0, 0, 0), UNKNOWN);
        Due.is("unknown ahead of null", x.copy(3, 0, -1, 0, 0), UNKNOWN);
        Due.is("null", x.copy(3, -1, 2, 0, 0), NULL);
        Due.is("null", x.copy(2, -1, 3, 0, 0), NULL);
        Due.is("cast", x.copy(0, -1, 2, 0, 0), CAST);
        int[][] beyond = {{-1, 0, 0}, {0, -1, 0}, {0, 0, -1}, {6, 0, 0}, {0, 4, 0}, {3, 0, 3}, {0, 1, 3}, {FAR, 0, FAR}, {0, FAR, FAR}, {0, 0, LOW}};
        for (int[] b : beyond) {
            Due.is("index " + b[0] + " " + b[1] + " " + b[2], x.copy(0, b[0], 1, b[1], b[2]), INDEX);
            Due.is("fault", x.fault(), 3);
        }
        isRow(x, 1, 0, 6, 3, 4);
    }

    // Promises 26, 27, 29
    private static void tellings() {
        String text = "g0h20y30b40h50";
        int[] due = {2, 103, 108, 5}, traces = {1, 63, 91327, 1};
        for (int h = 0; h < 4; h++) {
            WordHedges x = Due.planted(text);
            Due.is("tell", x.tell(h), due[h]);
            Due.is("trace of tell", x.trace(), traces[h]);
        }
        int[] lean = {0, 1, 20, 3}, body = {4, 4, 5, 4};
        for (int h = 0; h < 4; h++) {
            WordHedges x = Due.planted(text);
            Due.is("lean", x.lean(h), lean[h]);
            Due.is("trace of lean", x.trace(), body[h]);
        }
        WordHedges x = Due.planted(text);
        x.say(0, 1, 0, 3);
        Due.is("as at first", x.tell(0), 2);
        int trace = 1;
        for (int k = 0; k < 20; k++) {
            x.lean(k % 4);
            trace = 31 * trace + body[k % 4];
            Due.is("trace wraps", x.trace(), trace);
        }
        Due.is("tell", x.tell(4), UNKNOWN);
        Due.is("tell", x.tell(-1), UNKNOWN);
        Due.is("lean", x.lean(4), UNKNOWN);
        Due.is("lean", x.lean(-1), UNKNOWN);
        Due.is("trace of none", x.trace(), trace);
    }

    // Promise 28
    private static void kinds() {
        WordHedges x = Due.planted("g0h20y30b40");
        for (int h = 0; h < 3; h++) {
            for (int kind = 0; kind < 3; kind++) {
                Due.is("as", x.as(h, kind), kind <= h ? 1 : CAST);
                Due.is("fault of as", x.fault(), kind <= h ? 0 : 2);
            }
        }
        Due.is("hedge first", x.as(3, 3), UNKNOWN);
        Due.is("hedge", x.as(-1, 0), UNKNOWN);
        Due.is("kind", x.as(0, 3), OUTSIDE);
        Due.is("kind", x.as(0, -1), OUTSIDE);
    }

    // Promise 30: calls that name no fault leave it, refused ones and good ones of the others make it 0
    private static void faults() {
        WordHedges x = Due.planted(FIVE);
        x.sheet(0, 0, -1);
        Due.is("size", x.fault(), 4);
        x.lose(0);
        x.lose(9);
        x.say(0, 1, 0, 1);
        x.say(9, 9, 9, 9);
        x.mean(99, 0);
        x.tell(0);
        x.tell(99);
        x.many(9);
        x.fault();
        Due.is("it stays", x.fault(), 4);
        x.sheet(9, 0, 1);
        Due.is("refused", x.fault(), 0);
        x.put(0, 0, 0);
        Due.is("null", x.fault(), 1);
        x.sheet(0, 0, 1);
        Due.is("none", x.fault(), 0);
        x.put(0, 1, 0);
        Due.is("index", x.fault(), 3);
        x.put(0, 0, 0);
        Due.is("none", x.fault(), 0);
        x.cell(0, 0, 1);
        Due.is("cast", x.fault(), 2);
        x.cell(0, 0, 0);
        Due.is("none", x.fault(), 0);
        x.copy(1, 0, 0, 0, 0);
        Due.is("null", x.fault(), 1);
        x.copy(9, 0, 0, 0, 0);
        Due.is("refused", x.fault(), 0);
        x.gardens(0, 0, 0, 2);
        Due.is("index", x.fault(), 3);
        x.gardens(0, 0, 0, 1);
        Due.is("a text's fault is none of these", x.fault(), 0);
        x.as(0, 2);
        Due.is("cast", x.fault(), 2);
        x.as(0, 9);
        Due.is("refused", x.fault(), 0);
    }

    // Promise 31
    private static void manies() {
        WordHedges x = Due.planted(FIVE);
        x.reading(0, 0, 0, 0);
        int[] due = {5, 4, 1};
        for (int what = 0; what < 3; what++) Due.is("many", x.many(what), due[what]);
        Due.is("many", x.many(3), OUTSIDE);
        Due.is("many", x.many(-1), OUTSIDE);
    }

    // Refusals in their order where there are no gardens
    private static void withoutGardens() {
        WordHedges x = new WordHedges();
        Due.is("goats", x.goats(31), OUTSIDE);
        Due.is("goats", x.goats(0), STATE);
        Due.is("scold", x.scold(0, 0, 0, 0), UNKNOWN);
        Due.is("scold", x.scold(30, 0, -1, 0), OUTSIDE);
        Due.is("scold", x.scold(0, 0, -1, 1), STATE);
        Due.is("peace", x.peace(30), OUTSIDE);
        Due.is("peace", x.peace(0), STATE);
        Due.is("round", x.round(0, 21), OUTSIDE);
        Due.is("round", x.round(0, 0), STATE);
        Due.is("mean", x.mean(0, 0), LOST);
        Due.is("fines", x.fines(-1, 20), 0);
        Due.is("fines", x.fines(-1, 21), OUTSIDE);
        Due.is("fines", x.fines(0, 0), UNKNOWN);
        Due.is("back", x.back(0), 0);
        Due.is("back", x.back(1), OUTSIDE);
        Due.is("say", x.say(0, 1, 0, 0), UNKNOWN);
        Due.is("said", x.said(0, 1, 0), UNKNOWN);
        Due.is("clip", x.clip(0, 0, 0), UNKNOWN);
        Due.is("face", x.face(0, 0, 0), UNKNOWN);
        Due.is("height", x.height(0, 0, 0), UNKNOWN);
        Due.is("light", x.light(0, 0), UNKNOWN);
        Due.is("off", x.off(0, 0), UNKNOWN);
        Due.is("reading", x.reading(0, 0, 0, 0), UNKNOWN);
        Due.is("quarrel", x.quarrel(0, 0, 0, 0), UNKNOWN);
        Due.is("tell", x.tell(0), UNKNOWN);
        Due.is("lean", x.lean(0), UNKNOWN);
        Due.is("as", x.as(0, 0), UNKNOWN);
        Due.is("ofHedge", x.ofHedge(0, 0), UNKNOWN);
    }
}
