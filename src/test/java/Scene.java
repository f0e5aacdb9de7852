import java.util.ArrayList;
import java.util.List;
import java.util.function.Supplier;
import java.util.function.ToLongFunction;

/**
 * An object of which each part has been told something, and all that such an object answers: so that a test can see
 * what a call leaves as it was. Preparing it and asking it all take less than 512 calls.
 */
final class Scene {
    static final int UNKNOWN = -1, OUTSIDE = -2, STATE = -3, FULL = -4, NONE = -9;
    static final int NULL = -11, CAST = -12, INDEX = -13, SIZE = -14;
    static final long LOST = Long.MIN_VALUE;
    static final int LOW = Integer.MIN_VALUE, FAR = Integer.MAX_VALUE;
    /** The fault() that a scene begins with (SIZE). */
    static final int FIRST_FAULT = 4;
    /** What fault() tells behind a call that names no FAULTS: still that one. */
    static final int STAYS = FIRST_FAULT;
    static final String TEXT = "g5y39b48";

    private Scene() {
    }

    /**
     * Three gardens, a yew of 36 inches, a bramble of 48. Flanks: of the yew 54 and 33 at dawns 1 to 3, clipped to 24 on
     * day 3; of the bramble less by 6 a day, the left one 0 at dawn 8 and 12 at dawn 30, the right one 0 at dawn 9.
     * Sheets: 0 the text (8 ints), 1 three bytes, 2 shorts, but none, 3 nothing. Three readings, all so.
     */
    static WordHedges told() {
        WordHedges x = new WordHedges();
        Due.told(x, 0, TEXT);
        row(x, 1, 0, 7, -8, 9);
        x.sheet(2, 1, 0);
        x.say(0, 1, 0, 3);
        x.say(1, 0, 0, -1);
        x.say(1, 1, 29, 2);
        x.say(2, 0, 5, -3);
        x.clip(0, 3, 2);
        x.clip(1, 29, 20);
        x.reading(0, 0, 1, 54);
        x.reading(0, 1, 4, 24);
        x.reading(1, 0, 30, 12);
        x.tell(1);
        x.sheet(1, 0, -1);
        return x;
    }

    /** No gardens, nothing in any sheet, but a fault. */
    static WordHedges bare() {
        WordHedges x = new WordHedges();
        x.sheet(1, 0, -1);
        return x;
    }

    static void row(WordHedges x, int k, int lane, int... numbers) {
        x.sheet(k, lane, numbers.length);
        for (int i = 0; i < numbers.length; i++) x.put(k, i, numbers[i]);
    }

    /** A call on a scene answers so, fault() tells this afterwards, and all else is as it was. */
    static void leaves(String what, Supplier<WordHedges> scene, ToLongFunction<WordHedges> call, long due, int fault) {
        WordHedges x = scene.get();
        Due.is(what, call.applyAsLong(x), due);
        Due.is(what + ": fault()", x.fault(), fault);
        List<Long> left = all(x);
        List<Long> was = all(scene.get());
        Due.holds(what + " leaves all as it was", left.equals(was));
    }

    /** As above, with the fault that such an answer of a call that names FAULTS has. */
    static void leavesNaming(String what, Supplier<WordHedges> scene, ToLongFunction<WordHedges> call, long due) {
        leaves(what, scene, call, due, due <= NULL && due >= SIZE ? (int) (-10 - due) : 0);
    }

    /** Everything that can be asked of an object with at most three gardens, but the fault; it is used up by that. */
    static List<Long> all(WordHedges x) {
        List<Long> answers = new ArrayList<>();
        for (int what = 0; what < 3; what++) answers.add((long) x.many(what));
        answers.add((long) x.trace());
        for (int g = 0; g < 4; g++) answers.add((long) x.wants(g));
        for (int h = 0; h < 3; h++) {
            for (int what = 0; what < 2; what++) answers.add((long) x.ofHedge(h, what));
        }
        for (int h = 0; h < 2; h++) {
            for (int k = 0; k < 62; k++) answers.add((long) x.face(h, k % 2, k / 2));
        }
        sheetsOf(x, answers);
        readingsOf(x, answers);
        wordsOf(x, answers);
        return answers;
    }

    private static void sheetsOf(WordHedges x, List<Long> answers) {
        for (int k = 0; k < 4; k++) {
            for (int lane = 0; lane < 3; lane++) {
                answers.add(x.cell(k, 0, lane));
                answers.add((long) x.fault());
            }
        }
        for (int i = 1; i < 9; i++) answers.add(x.cell(0, i, 2));
        for (int i = 1; i < 4; i++) answers.add(x.cell(1, i, 0));
    }

    /** By what they leave of words, the last one taken back first. */
    private static void readingsOf(WordHedges x, List<Long> answers) {
        while (x.many(2) > 0 && answers.size() < 400) {
            answers.add((long) x.said(0, 1, 0));
            answers.add((long) x.said(1, 0, 1));
            answers.add((long) x.said(1, 1, 29));
            answers.add((long) x.back(1));
        }
    }

    private static void wordsOf(WordHedges x, List<Long> answers) {
        for (int day = 0; day < 30; day++) {
            for (int h = 0; h < 2; h++) {
                answers.add((long) x.say(h, 1, day, 0));
                answers.add((long) x.say(h + 1, 0, day, 0));
                answers.add((long) x.clip(h, day, NONE));
            }
        }
    }
}
