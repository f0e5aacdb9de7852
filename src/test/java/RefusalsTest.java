/**
 * "Of several the first in the order in which a call's line tells them", of FAULTS "the first that is come to, in the
 * order told", and "they change nothing (but fault(), of a call that names FAULTS)": every set of wrong numbers of every
 * call, on the scene of three gardens and without gardens.
 */
public final class RefusalsTest {
    private static final int UNKNOWN = Scene.UNKNOWN, OUTSIDE = Scene.OUTSIDE, STATE = Scene.STATE, FULL = Scene.FULL;
    private static final int NULL = Scene.NULL, CAST = Scene.CAST, INDEX = Scene.INDEX, SIZE = Scene.SIZE;
    private static final long LOST = Scene.LOST;

    private interface Call {
        long on(WordHedges x, int[] numbers);
    }

    /** A wrong number, at its place among the call's numbers, and what the call answers to it. */
    private record Wrong(int place, int number, long answer, int fault) {
    }

    public static void main(String[] args) {
        gardens();
        saidAndDone();
        seasons();
        scolds();
        quarrelsAndRounds();
        sheets();
        cells();
        copies();
        parts();
        textsAreLast();
        fullIsLast();
        hedgesAreLast();
        statesAreLast();
        faultsStay();
        faultsGo();
        Due.end();
    }

    private static Wrong wrong(int place, int number, long answer) {
        return new Wrong(place, number, answer, Scene.STAYS);
    }

    /** Of a call that names FAULTS. */
    private static Wrong fault(int place, int number, long answer) {
        return new Wrong(place, number, answer, answer <= NULL && answer >= SIZE ? (int) (-10 - answer) : 0);
    }

    private static Wrong lost(int place, int number, int fault) {
        return new Wrong(place, number, LOST, fault);
    }

    /** Wrong numbers stand in the order in which the call's line tells them. */
    private static void order(String what, Call call, int[] good, Wrong... inOrder) {
        for (int set = 1; set < 1 << inOrder.length; set++) {
            int[] numbers = good.clone();
            Wrong first = null;
            for (int k = inOrder.length - 1; k >= 0; k--) {
                if ((set >> k & 1) == 0) continue;
                first = inOrder[k];
                numbers[first.place()] = first.number();
            }
            String told = what + " " + java.util.Arrays.toString(numbers);
            Scene.leaves(told, Scene::told, x -> call.on(x, numbers), first.answer(), first.fault());
        }
    }

    private static int[] good(int... numbers) {
        return numbers;
    }

    // 2: UNKNOWN; OUTSIDE: lane; CAST (nothing is no CAST); NULL; SIZE: n below 0; INDEX
    private static void gardens() {
        Call call = (x, n) -> x.gardens(n[0], n[1], n[2], n[3]);
        order("2", call, good(0, 2, 0, 8), fault(0, 4, UNKNOWN), fault(1, 3, OUTSIDE), fault(1, 0, CAST), fault(3, -1, SIZE), fault(2, 9, INDEX));
        order("2", call, good(0, 2, 0, 8), fault(0, -1, UNKNOWN), fault(1, -1, OUTSIDE), fault(1, 1, CAST), fault(3, -1, SIZE), fault(2, -1, INDEX));
        order("2 of nothing", call, good(3, 1, 0, 0), fault(0, 4, UNKNOWN), fault(1, 3, OUTSIDE), fault(0, 3, NULL), fault(3, -1, NULL), fault(2, 1, NULL));
        order("2 of none", call, good(2, 1, 0, 0), fault(1, 2, CAST), fault(3, -1, SIZE), fault(3, 1, INDEX), fault(2, 1, INDEX));
    }

    // 5, 6, 13, 15: UNKNOWN; OUTSIDE
    private static void saidAndDone() {
        order("5", (x, n) -> x.say(n[0], n[1], n[2], n[3]), good(1, 0, 0, 1),
            wrong(0, 3, UNKNOWN), wrong(1, 2, OUTSIDE), wrong(2, 30, OUTSIDE), wrong(3, 4, OUTSIDE));
        order("6", (x, n) -> x.clip(n[0], n[1], n[2]), good(1, 0, 0), wrong(0, 2, UNKNOWN), wrong(1, 30, OUTSIDE), wrong(2, 21, OUTSIDE));
        order("13", (x, n) -> x.reading(n[0], n[1], n[2], n[3]), good(1, 0, 0, 0),
            wrong(0, 2, UNKNOWN), wrong(1, 2, OUTSIDE), wrong(2, 31, OUTSIDE), wrong(3, 241, OUTSIDE));
        order("15", (x, n) -> x.said(n[0], n[1], n[2]), good(1, 0, 0), wrong(0, 3, UNKNOWN), wrong(1, 2, OUTSIDE), wrong(2, 30, OUTSIDE));
    }

    // 4, 7, 8, 9, 11: UNKNOWN; OUTSIDE
    private static void seasons() {
        order("4", (x, n) -> x.ofHedge(n[0], n[1]), good(1, 0), wrong(0, 2, UNKNOWN), wrong(1, 2, OUTSIDE));
        order("7", (x, n) -> x.face(n[0], n[1], n[2]), good(1, 0, 0), wrong(0, 2, UNKNOWN), wrong(1, 2, OUTSIDE), wrong(2, 31, OUTSIDE));
        order("8", (x, n) -> x.height(n[0], n[1], n[2]), good(1, 0, 0), wrong(0, 2, UNKNOWN), wrong(1, 31, OUTSIDE), wrong(2, 2, OUTSIDE));
        order("9", (x, n) -> x.light(n[0], n[1]), good(1, 0), wrong(0, 3, UNKNOWN), wrong(1, 31, OUTSIDE));
        order("11", (x, n) -> x.off(n[0], n[1]), good(1, 0), wrong(0, 3, UNKNOWN), wrong(1, 31, OUTSIDE));
    }

    // 12: UNKNOWN: h is not -1, no HEDGE; OUTSIDE: DAY, feet, side (0, 1)
    private static void scolds() {
        Call call = (x, n) -> x.scold(n[0], n[1], n[2], n[3]);
        for (int h = -1; h < 2; h++) {
            order("12", call, good(0, 0, h, 0), wrong(2, 2, UNKNOWN), wrong(0, 30, OUTSIDE), wrong(1, 21, OUTSIDE), wrong(3, 2, OUTSIDE));
            order("12", call, good(0, 0, h, 0), wrong(2, -2, UNKNOWN), wrong(0, -1, OUTSIDE), wrong(1, -1, OUTSIDE), wrong(3, -1, OUTSIDE));
        }
    }

    // 16: UNKNOWN: HEDGE; OUTSIDE: DAYS, side. 18: OUTSIDE. 19: UNKNOWN; OUTSIDE: c. 20: LOST
    private static void quarrelsAndRounds() {
        order("16", (x, n) -> x.quarrel(n[0], n[1], n[2], n[3]), good(1, 3, 4, 0),
            wrong(0, 2, UNKNOWN), wrong(1, 30, OUTSIDE), wrong(2, 30, OUTSIDE), wrong(3, 2, OUTSIDE));
        order("16", (x, n) -> x.quarrel(n[0], n[1], n[2], n[3]), good(1, 3, 4, 0),
            wrong(0, -1, UNKNOWN), wrong(1, -1, OUTSIDE), wrong(2, 2, OUTSIDE), wrong(3, -1, OUTSIDE));
        order("18", (x, n) -> x.round(n[0], n[1]), good(0, 0), wrong(0, 31, OUTSIDE), wrong(1, 21, OUTSIDE));
        order("19", (x, n) -> x.fines(n[0], n[1]), good(0, 0), wrong(0, 3, UNKNOWN), wrong(1, 21, OUTSIDE));
        order("20", (x, n) -> x.mean(n[0], n[1]), good(0, 0), lost(0, 31, Scene.STAYS), lost(1, 2, Scene.STAYS));
    }

    // 21: UNKNOWN; OUTSIDE: lane, n above 60; SIZE. 23: UNKNOWN; NULL; INDEX
    private static void sheets() {
        Call sheet = (x, n) -> x.sheet(n[0], n[1], n[2]);
        order("21", sheet, good(1, 0, 3), fault(0, 4, UNKNOWN), fault(1, 3, OUTSIDE), fault(2, 61, OUTSIDE), fault(2, -1, SIZE));
        order("21", sheet, good(1, 0, 3), fault(0, -1, UNKNOWN), fault(1, -1, OUTSIDE), fault(2, -1, SIZE));
        Call put = (x, n) -> x.put(n[0], n[1], n[2]);
        order("23", put, good(1, 0, 3), fault(0, 4, UNKNOWN), fault(0, 3, NULL), fault(1, 3, INDEX));
        order("23", put, good(1, 0, 3), fault(0, -1, UNKNOWN), fault(0, 3, NULL), fault(1, -1, INDEX));
    }

    // 24: UNKNOWN, OUTSIDE: lane; CAST (nothing is no CAST), NULL, INDEX
    private static void cells() {
        Call call = (x, n) -> x.cell(n[0], n[1], n[2]);
        order("24", call, good(1, 0, 0), lost(0, 4, 0), lost(2, 3, 0), lost(2, 1, 2), lost(1, 3, 3));
        order("24", call, good(1, 0, 0), lost(0, -1, 0), lost(2, -1, 0), lost(2, 2, 2), lost(1, -1, 3));
        order("24 of nothing", call, good(3, 0, 0), lost(0, 4, 0), lost(2, 3, 0), lost(2, 1, 1), lost(1, 1, 1), lost(1, -1, 1));
    }

    // 25: UNKNOWN; NULL (the first, the other), CAST (unlike LANES), INDEX: i, j, n below 0 or beyond
    private static void copies() {
        Call call = (x, n) -> x.copy(n[0], n[1], n[2], n[3], n[4]);
        order("25", call, good(1, 0, 1, 0, 1), fault(0, 4, UNKNOWN), fault(2, 4, UNKNOWN), fault(0, 3, NULL), fault(2, 3, NULL),
            fault(2, 0, CAST), fault(1, 4, INDEX), fault(3, 9, INDEX), fault(4, 9, INDEX));
        order("25", call, good(1, 0, 1, 0, 1), fault(0, -1, UNKNOWN), fault(2, -1, UNKNOWN), fault(0, 3, NULL), fault(2, 3, NULL),
            fault(2, 2, CAST), fault(1, -1, INDEX), fault(3, -1, INDEX), fault(4, -1, INDEX));
        order("25 the first", call, good(1, 0, 2, 0, 0), fault(0, 3, NULL), fault(0, 1, CAST), fault(1, 4, CAST));
        order("25 the same, nothing", call, good(3, 0, 3, 0, 0), fault(0, 3, NULL), fault(1, -1, NULL), fault(4, -1, NULL));
    }

    // 28: UNKNOWN; OUTSIDE; CAST: it is none
    private static void parts() {
        Call call = (x, n) -> x.as(n[0], n[1]);
        order("28", call, good(0, 0), fault(0, 2, UNKNOWN), fault(1, 3, OUTSIDE), fault(1, 2, CAST));
        order("28", call, good(0, 0), fault(0, -1, UNKNOWN), fault(1, -1, OUTSIDE), fault(1, 2, CAST));
        int[] kinds = {0, 1, 2};
        for (int kind : kinds) {
            Scene.leaves("28 a yew as " + kind, Scene::told, x -> x.as(0, kind), kind > 1 ? CAST : 1, kind > 1 ? 2 : 0);
            Scene.leaves("28 a bramble as " + kind, Scene::told, x -> x.as(1, kind), 1, 0);
        }
    }

    // 2: "-100 less it" comes behind all others, changes nothing, and is no FAULT
    private static void textsAreLast() {
        Scene.leavesNaming("2 too few", Scene::told, x -> x.gardens(0, 2, 0, 7), -107);
        Scene.leavesNaming("2 no text", Scene::told, x -> x.gardens(0, 2, 1, 7), -100);
        Scene.leavesNaming("2 no codes", Scene::told, x -> x.gardens(0, 2, 8, 0), -100);
        Scene.leavesNaming("2 an empty row", Scene::told, x -> x.gardens(2, 1, 0, 0), -100);
        Scene.leavesNaming("2 numbers", Scene::told, x -> x.gardens(1, 0, 0, 3), -100);
        Scene.leavesNaming("2 index ahead of the text", Scene::told, x -> x.gardens(1, 0, 0, 4), INDEX);
    }

    private static WordHedges fullOfReadings() {
        WordHedges x = Scene.told();
        for (int k = 3; k < 10; k++) Due.is("13 there is room", x.reading(1, 1, k, 6 * k), k);
        return x;
    }

    // 13: READINGS 10 at most; FULL behind UNKNOWN, OUTSIDE
    private static void fullIsLast() {
        Scene.leaves("13 the eleventh", RefusalsTest::fullOfReadings, x -> x.reading(0, 0, 0, 36), FULL, Scene.STAYS);
        Scene.leaves("13 unknown", RefusalsTest::fullOfReadings, x -> x.reading(2, 0, 0, 36), UNKNOWN, Scene.STAYS);
        Scene.leaves("13 side", RefusalsTest::fullOfReadings, x -> x.reading(0, 2, 0, 36), OUTSIDE, Scene.STAYS);
        Scene.leaves("13 dawn", RefusalsTest::fullOfReadings, x -> x.reading(0, 0, 31, 36), OUTSIDE, Scene.STAYS);
        Scene.leaves("13 inches", RefusalsTest::fullOfReadings, x -> x.reading(0, 0, 0, 241), OUTSIDE, Scene.STAYS);
        Scene.leaves("14 more than all", RefusalsTest::fullOfReadings, x -> x.back(11), OUTSIDE, Scene.STAYS);
        Scene.leaves("14 none", RefusalsTest::fullOfReadings, x -> x.back(0), 10, Scene.STAYS);
        WordHedges x = fullOfReadings();
        Due.is("14 one", x.back(1), 9);
        Due.is("13 there is room again", x.reading(0, 0, 0, 36), 9);
        Due.is("13 full again", x.reading(0, 0, 0, 36), FULL);
        Due.is("14 all", x.back(10), 0);
        Due.is("14 none is left", x.back(1), OUTSIDE);
        Due.is("13 from 0 on", x.reading(0, 0, 0, 36), 0);
    }

    // 5, 15: "UNKNOWN: there is no such HEDGE" behind OUTSIDE
    private static void hedgesAreLast() {
        int[][] without = {{0, 0}, {2, 1}};
        for (int[] w : without) {
            order("5", (x, n) -> x.say(n[0], n[1], n[2], n[3]), good(w[0], w[1], 0, 1),
                wrong(0, 3, UNKNOWN), wrong(1, 2, OUTSIDE), wrong(2, 30, OUTSIDE), wrong(3, -4, OUTSIDE), wrong(1, w[1], UNKNOWN));
            order("15", (x, n) -> x.said(n[0], n[1], n[2]), good(w[0], w[1], 0),
                wrong(0, 3, UNKNOWN), wrong(1, 2, OUTSIDE), wrong(2, -1, OUTSIDE), wrong(1, w[1], UNKNOWN));
        }
    }

    // 10, 12, 17, 18, 20: OUTSIDE, then "STATE: there are no GARDENS"
    private static void statesAreLast() {
        for (int wrong : new int[] {-1, 31, Scene.LOW, Scene.FAR}) {
            Scene.leaves("10", Scene::bare, x -> x.goats(wrong), OUTSIDE, Scene.STAYS);
            Scene.leaves("12 day", Scene::bare, x -> x.scold(wrong, 0, -1, 0), OUTSIDE, Scene.STAYS);
            Scene.leaves("12 feet", Scene::bare, x -> x.scold(0, wrong, -1, 0), OUTSIDE, Scene.STAYS);
            Scene.leaves("12 side", Scene::bare, x -> x.scold(0, 0, -1, wrong), OUTSIDE, Scene.STAYS);
            Scene.leaves("12 unknown ahead", Scene::bare, x -> x.scold(wrong, wrong, 0, wrong), UNKNOWN, Scene.STAYS);
            Scene.leaves("17", Scene::bare, x -> x.peace(wrong), OUTSIDE, Scene.STAYS);
            Scene.leaves("18 dawn", Scene::bare, x -> x.round(wrong, 0), OUTSIDE, Scene.STAYS);
            Scene.leaves("18 c", Scene::bare, x -> x.round(0, wrong), OUTSIDE, Scene.STAYS);
            Scene.leaves("19 c", Scene::bare, x -> x.fines(-1, wrong), OUTSIDE, Scene.STAYS);
            Scene.leaves("19 unknown ahead", Scene::bare, x -> x.fines(0, wrong), UNKNOWN, Scene.STAYS);
            Scene.leaves("20 dawn", Scene::bare, x -> x.mean(wrong, 0), LOST, Scene.STAYS);
        }
        Scene.leaves("17 first day behind the last", Scene::bare, x -> x.peace(30), OUTSIDE, Scene.STAYS);
        Scene.leaves("17 last day", Scene::bare, x -> x.peace(29), STATE, Scene.STAYS);
        Scene.leaves("10 last dawn", Scene::bare, x -> x.goats(30), STATE, Scene.STAYS);
        Scene.leaves("12 last numbers", Scene::bare, x -> x.scold(29, 20, -1, 1), STATE, Scene.STAYS);
    }

    // 30: "The FAULT of the latest call that names one": others, that ask and change nothing, leave it and all else
    private static void faultsStay() {
        Scene.leaves("wants", Scene::told, x -> x.wants(0), 5, Scene.STAYS);
        Scene.leaves("ofHedge", Scene::told, x -> x.ofHedge(0, 1), 3, Scene.STAYS);
        Scene.leaves("face", Scene::told, x -> x.face(0, 0, 1), 54, Scene.STAYS);
        Scene.leaves("height", Scene::told, x -> x.height(0, 1, 0), 33, Scene.STAYS);
        Scene.leaves("light", Scene::told, x -> x.light(0, 0), 17, Scene.STAYS);
        Scene.leaves("goats", Scene::told, x -> x.goats(0), 1, Scene.STAYS);
        Scene.leaves("off", Scene::told, x -> x.off(0, 0), 1, Scene.STAYS);
        Scene.leaves("scold", Scene::told, x -> x.scold(29, 1, 0, 0), 10, Scene.STAYS);
        Scene.leaves("scold all", Scene::told, x -> x.scold(29, 1, -1, 0), 2, Scene.STAYS);
        Scene.leaves("scold, none", Scene::told, x -> x.scold(0, 20, -1, 0), Scene.NONE, Scene.STAYS);
        Scene.leaves("said", Scene::told, x -> x.said(0, 1, 0), 64, Scene.STAYS);
        Scene.leaves("quarrel", Scene::told, x -> x.quarrel(0, 0, 29, 1), 10, Scene.STAYS);
        Scene.leaves("peace", Scene::told, x -> x.peace(0), 2, Scene.STAYS);
        Scene.leaves("round", Scene::told, x -> x.round(0, 0), 15, Scene.STAYS);
        Scene.leaves("fines", Scene::told, x -> x.fines(-1, 2), 14, Scene.STAYS);
        Scene.leaves("mean", Scene::told, x -> x.mean(0, 0), 42, Scene.STAYS);
        Scene.leaves("trace", Scene::told, x -> x.trace(), 91327, Scene.STAYS);
        Scene.leaves("fault", Scene::told, x -> x.fault(), Scene.FIRST_FAULT, Scene.STAYS);
        Scene.leaves("many", Scene::told, x -> x.many(2), 3, Scene.STAYS);
        Scene.leaves("lose nothing", Scene::told, x -> x.lose(3), 0, Scene.STAYS);
        Scene.leaves("back none", Scene::told, x -> x.back(0), 3, Scene.STAYS);
        WordHedges x = Scene.told();
        x.say(0, 1, 0, 1);
        x.clip(0, 0, 1);
        x.reading(0, 0, 0, 0);
        x.back(1);
        x.lose(0);
        x.tell(0);
        x.lean(0);
        Due.is("calls that change something, but name no FAULTS", x.fault(), Scene.FIRST_FAULT);
    }

    // 30: "0: it came to none, or was refused (0 ahead of any)"
    private static void faultsGo() {
        Due.is("ahead of any", new WordHedges().fault(), 0);
        Scene.leaves("gardens", Scene::told, x -> x.gardens(0, 2, 0, 7), -107, 0);
        Scene.leaves("cell", Scene::told, x -> x.cell(1, 1, 0), -8, 0);
        Scene.leaves("put", Scene::told, x -> x.put(1, 1, -8), 1, 0);
        Scene.leaves("copy", Scene::told, x -> x.copy(1, 0, 1, 0, 3), 3, 0);
        Scene.leaves("sheet", Scene::told, x -> x.sheet(2, 1, 0), 1, 0);
        Scene.leaves("as", Scene::told, x -> x.as(1, 2), 1, 0);
        WordHedges x = Scene.told();
        Due.is("gardens", x.gardens(0, 2, 0, 8), 3);
        Due.is("a text that is taken", x.fault(), 0);
    }
}
