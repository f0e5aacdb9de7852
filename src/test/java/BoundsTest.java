import java.util.function.ToLongFunction;

/**
 * Each number of each call: the last ones that are within and the first ones that are not, on both sides, the least and
 * the greatest int; and a call that is refused leaves all as it was. On the scene of three gardens, without gardens, and,
 * where a garden or a hedge is meant, with 2 to 7 gardens.
 */
public final class BoundsTest {
    private static final int UNKNOWN = Scene.UNKNOWN, OUTSIDE = Scene.OUTSIDE, STATE = Scene.STATE, NONE = Scene.NONE;
    private static final int NULL = Scene.NULL, INDEX = Scene.INDEX, SIZE = Scene.SIZE;
    private static final int LOW = Scene.LOW, FAR = Scene.FAR;
    private static final long LOST = Scene.LOST;

    private interface Call {
        long on(WordHedges x, int number);
    }

    public static void main(String[] args) {
        gardens();
        wantsAndHedges();
        saying();
        clipping();
        facesAndHeights();
        lightsAndGoats();
        scolding();
        readings();
        said();
        quarrels();
        peaceRoundFines();
        means();
        sheets();
        cells();
        copies();
        parts();
        gardensByCount();
        hedgesByCount();
        withoutGardens();
        Due.end();
    }

    private static ToLongFunction<WordHedges> with(Call call, int number) {
        return x -> call.on(x, number);
    }

    private static int[] below(int least) {
        return new int[] {LOW, LOW + 1, least - 2, least - 1};
    }

    private static int[] above(int most) {
        return new int[] {most + 1, most + 2, FAR - 1, FAR};
    }

    /** A number of a call that names no FAULTS: within least .. most it is taken, else the call answers so. */
    private static void within(String what, Call call, int least, long atLeast, int most, long atMost, long refused) {
        Due.is(what + " " + least, call.on(Scene.told(), least), atLeast);
        Due.is(what + " " + most, call.on(Scene.told(), most), atMost);
        for (int n : below(least)) Scene.leaves(what + " " + n, Scene::told, with(call, n), refused, Scene.STAYS);
        for (int n : above(most)) Scene.leaves(what + " " + n, Scene::told, with(call, n), refused, Scene.STAYS);
    }

    /** A number of a call that names FAULTS: least and most, each with its answer, and what is answered beyond each. */
    private static void naming(String what, Call call, int least, long atLeast, int most, long atMost, long under, long over) {
        Due.is(what + " " + least, call.on(Scene.told(), least), atLeast);
        Due.is(what + " " + most, call.on(Scene.told(), most), atMost);
        for (int n : below(least)) Scene.leavesNaming(what + " " + n, Scene::told, with(call, n), under);
        for (int n : above(most)) Scene.leavesNaming(what + " " + n, Scene::told, with(call, n), over);
    }

    /** A number of cell(): it answers LOST beyond, with a fault. */
    private static void losing(String what, Call call, int least, int most, int fault) {
        for (int n : below(least)) Scene.leaves(what + " " + n, Scene::told, with(call, n), LOST, fault);
        for (int n : above(most)) Scene.leaves(what + " " + n, Scene::told, with(call, n), LOST, fault);
    }

    // 2: UNKNOWN; OUTSIDE: lane; SIZE: n below 0; INDEX
    private static void gardens() {
        naming("2 sheet", (x, k) -> x.gardens(k, 2, 0, 8), 0, 3, 3, NULL, UNKNOWN, UNKNOWN);
        naming("2 lane", (x, lane) -> x.gardens(3, lane, 0, 8), 0, NULL, 2, NULL, OUTSIDE, OUTSIDE);
        naming("2 n", (x, n) -> x.gardens(0, 2, 0, n), 0, -100, 8, 3, SIZE, INDEX);
        naming("2 n from 7 on", (x, n) -> x.gardens(0, 2, 7, n), 0, -100, 1, -100, SIZE, INDEX);
        naming("2 n behind all", (x, n) -> x.gardens(0, 2, 8, n), 0, -100, 0, -100, SIZE, INDEX);
        naming("2 n of an empty row", (x, n) -> x.gardens(2, 1, 0, n), 0, -100, 0, -100, SIZE, INDEX);
        naming("2 i with 8 cells", (x, i) -> x.gardens(0, 2, i, 8), 0, 3, 0, 3, INDEX, INDEX);
        naming("2 i with no cells", (x, i) -> x.gardens(0, 2, i, 0), 0, -100, 8, -100, INDEX, INDEX);
        naming("2 i with one cell", (x, i) -> x.gardens(0, 2, i, 1), 0, -101, 7, -100, INDEX, INDEX);
    }

    // 3: UNKNOWN. 4: UNKNOWN; OUTSIDE
    private static void wantsAndHedges() {
        within("3 garden", (x, g) -> x.wants(g), 0, 5, 2, 8, UNKNOWN);
        within("4 hedge", (x, h) -> x.ofHedge(h, 0), 0, 1, 1, 2, UNKNOWN);
        within("4 what", (x, what) -> x.ofHedge(1, what), 0, 2, 1, 4, OUTSIDE);
    }

    // 5: UNKNOWN: GARDEN; OUTSIDE: side, DAY, the word; UNKNOWN: there is no such HEDGE
    private static void saying() {
        within("5 garden", (x, g) -> x.say(g, g == 0 ? 1 : 0, 0, 1), 0, 13, 2, 10, UNKNOWN);
        within("5 side", (x, side) -> x.say(1, side, 0, 1), 0, 9, 1, 10, OUTSIDE);
        within("5 day", (x, day) -> x.say(1, 1, day, 1), 0, 10, 29, 12, OUTSIDE);
        within("5 word", (x, word) -> x.say(1, 0, 0, word), -3, 9, 3, 9, OUTSIDE);
        for (int word = -3; word <= 3; word++) {
            WordHedges x = Scene.told();
            x.say(1, 0, 0, word);
            Due.is("5 the word " + word + " was said", x.say(1, 0, 0, 0), word + 10);
        }
        Scene.leaves("5 to the left of all", Scene::told, x -> x.say(0, 0, 0, 1), UNKNOWN, Scene.STAYS);
        Scene.leaves("5 to the right of all", Scene::told, x -> x.say(2, 1, 0, 1), UNKNOWN, Scene.STAYS);
    }

    // 6: so many feet (0 .. 20), or not at all (NONE). UNKNOWN; OUTSIDE: DAY, feet
    private static void clipping() {
        within("6 hedge", (x, h) -> x.clip(h, 3, 1), 0, 2, 1, NONE, UNKNOWN);
        within("6 day", (x, day) -> x.clip(1, day, 0), 0, NONE, 29, 20, OUTSIDE);
        within("6 feet", (x, feet) -> x.clip(0, 3, feet), 0, 2, 20, 2, OUTSIDE);
        Scene.leaves("6 feet above NONE", Scene::told, x -> x.clip(0, 3, NONE + 1), OUTSIDE, Scene.STAYS);
        Scene.leaves("6 feet below NONE", Scene::told, x -> x.clip(0, 3, NONE - 1), OUTSIDE, Scene.STAYS);
        for (int feet : new int[] {NONE, 0, 1, 19, 20}) {
            WordHedges x = Scene.told();
            x.clip(0, 3, feet);
            Due.is("6 clipped to " + feet, x.clip(0, 3, NONE), feet);
        }
    }

    // 7: UNKNOWN: HEDGE; OUTSIDE: side, DAWN. 8: UNKNOWN; OUTSIDE
    private static void facesAndHeights() {
        within("7 hedge", (x, h) -> x.face(h, 0, 30), 0, 24, 1, 12, UNKNOWN);
        within("7 side", (x, side) -> x.face(1, side, 30), 0, 12, 1, 0, OUTSIDE);
        within("7 dawn", (x, dawn) -> x.face(0, 0, dawn), 0, 36, 30, 24, OUTSIDE);
        within("8 hedge", (x, h) -> x.height(h, 0, 0), 0, 36, 1, 48, UNKNOWN);
        within("8 dawn", (x, dawn) -> x.height(0, dawn, 0), 0, 36, 30, 24, OUTSIDE);
        within("8 dawn of lean", (x, dawn) -> x.height(1, dawn, 1), 0, 1000, 30, 1012, OUTSIDE);
        within("8 what", (x, what) -> x.height(0, 1, what), 0, 33, 1, 1021, OUTSIDE);
    }

    // 9: UNKNOWN; OUTSIDE. 10: OUTSIDE. 11: UNKNOWN; OUTSIDE
    private static void lightsAndGoats() {
        within("9 garden", (x, g) -> x.light(g, 0), 0, 17, 2, 16, UNKNOWN);
        within("9 dawn", (x, dawn) -> x.light(1, dawn), 0, 13, 30, 18, OUTSIDE);
        within("10 dawn", (x, dawn) -> x.goats(dawn), 0, 1, 30, 7, OUTSIDE);
        within("11 garden", (x, g) -> x.off(g, 0), 0, 1, 2, 2, UNKNOWN);
        within("11 dawn", (x, dawn) -> x.off(1, dawn), 0, 2, 30, 1, OUTSIDE);
    }

    // 12: feet (0 .. 20). UNKNOWN: h is not -1, no HEDGE; OUTSIDE: DAY, feet, side (0, 1)
    private static void scolding() {
        within("12 hedge", (x, h) -> x.scold(0, 0, h, 0), -1, 0, 1, 10, UNKNOWN);
        within("12 day", (x, day) -> x.scold(day, 0, 0, 0), 0, 13, 29, 10, OUTSIDE);
        within("12 day of all", (x, day) -> x.scold(day, 0, -1, 0), 0, 0, 29, 0, OUTSIDE);
        within("12 feet", (x, feet) -> x.scold(0, feet, 0, 0), 0, 13, 20, NONE, OUTSIDE);
        within("12 feet of all", (x, feet) -> x.scold(0, feet, -1, 0), 0, 0, 20, NONE, OUTSIDE);
        within("12 side", (x, side) -> x.scold(0, 0, 0, side), 0, 13, 1, 9, OUTSIDE);
        within("12 side of all", (x, side) -> x.scold(0, 0, -1, side), 0, 0, 1, 0, OUTSIDE);
    }

    // 13: UNKNOWN: HEDGE; OUTSIDE: side, DAWN, inches (0 .. 240). 14: the last k READINGS (0 .. as many as there are)
    private static void readings() {
        within("13 hedge", (x, h) -> x.reading(h, 0, 0, 0), 0, 3, 1, 3, UNKNOWN);
        within("13 side", (x, side) -> x.reading(0, side, 0, 0), 0, 3, 1, 3, OUTSIDE);
        within("13 dawn", (x, dawn) -> x.reading(0, 0, dawn, 0), 0, 3, 30, 3, OUTSIDE);
        within("13 inches", (x, inches) -> x.reading(0, 0, 0, inches), 0, 3, 240, 3, OUTSIDE);
        within("14 k", (x, k) -> x.back(k), 0, 3, 3, 0, OUTSIDE);
    }

    // 15: UNKNOWN: GARDEN; OUTSIDE: side, DAY; UNKNOWN: there is no such HEDGE
    private static void said() {
        within("15 garden", (x, g) -> x.said(g, g == 0 ? 1 : 0, 0), 0, 64, 2, 127, UNKNOWN);
        within("15 side", (x, side) -> x.said(1, side, 29), 0, 127, 1, 32, OUTSIDE);
        within("15 day", (x, day) -> x.said(1, 1, day), 0, 127, 29, 32, OUTSIDE);
        Scene.leaves("15 to the left of all", Scene::told, x -> x.said(0, 0, 0), UNKNOWN, Scene.STAYS);
        Scene.leaves("15 to the right of all", Scene::told, x -> x.said(2, 1, 0), UNKNOWN, Scene.STAYS);
    }

    // 16: UNKNOWN: HEDGE; OUTSIDE: DAYS (the last one ahead of the first: so, too), side
    private static void quarrels() {
        within("16 hedge", (x, h) -> x.quarrel(h, 0, 0, 0), 0, 10, 1, 10, UNKNOWN);
        within("16 first", (x, first) -> x.quarrel(0, first, 29, 0), 0, 10, 29, 10, OUTSIDE);
        within("16 last", (x, last) -> x.quarrel(0, 0, last, 0), 0, 10, 29, 10, OUTSIDE);
        within("16 first up to 5", (x, first) -> x.quarrel(0, first, 5, 0), 0, 10, 5, 10, OUTSIDE);
        within("16 last from 5 on", (x, last) -> x.quarrel(0, 5, last, 0), 5, 10, 29, 10, OUTSIDE);
        within("16 both", (x, day) -> x.quarrel(0, day, day, 0), 0, 10, 29, 10, OUTSIDE);
        within("16 side", (x, side) -> x.quarrel(0, 0, 0, side), 0, 10, 1, 10, OUTSIDE);
    }

    // 17: OUTSIDE: DAY. 18: OUTSIDE: DAWN, c (0 .. 20). 19: of all (-1). UNKNOWN; OUTSIDE: c (0 .. 20)
    private static void peaceRoundFines() {
        within("17 day", (x, day) -> x.peace(day), 0, 2, 29, 0, OUTSIDE);
        within("18 dawn", (x, dawn) -> x.round(dawn, 2), 0, 7, 30, 0, OUTSIDE);
        within("18 c", (x, c) -> x.round(0, c), 0, 15, 20, 0, OUTSIDE);
        within("19 garden", (x, g) -> x.fines(g, 2), -1, 14, 2, 3, UNKNOWN);
        within("19 c", (x, c) -> x.fines(1, c), 0, 37, 20, 0, OUTSIDE);
        within("19 c of all", (x, c) -> x.fines(-1, c), 0, 72, 20, 0, OUTSIDE);
    }

    // 20: LOST: OUTSIDE
    private static void means() {
        within("20 dawn", (x, dawn) -> x.mean(dawn, 0), 0, 42, 30, 12, LOST);
        within("20 which", (x, which) -> x.mean(0, which), 0, 42, 1, 1, LOST);
    }

    // 21: UNKNOWN; OUTSIDE: lane, n above 60; SIZE. 22: UNKNOWN. 23: UNKNOWN; NULL; INDEX
    private static void sheets() {
        naming("21 sheet", (x, k) -> x.sheet(k, 0, 0), 0, 1, 3, 1, UNKNOWN, UNKNOWN);
        naming("21 lane", (x, lane) -> x.sheet(1, lane, 3), 0, 1, 2, 1, OUTSIDE, OUTSIDE);
        naming("21 n", (x, n) -> x.sheet(1, 0, n), 0, 1, 60, 1, SIZE, OUTSIDE);
        naming("21 n of nothing", (x, n) -> x.sheet(3, 2, n), 0, 1, 60, 1, SIZE, OUTSIDE);
        within("22 sheet", (x, k) -> x.lose(k), 0, 1, 3, 0, UNKNOWN);
        naming("23 sheet", (x, k) -> x.put(k, 0, 0), 0, 1, 3, NULL, UNKNOWN, UNKNOWN);
        naming("23 i", (x, i) -> x.put(1, i, 5), 0, 1, 2, 1, INDEX, INDEX);
        naming("23 i of 8", (x, i) -> x.put(0, i, 5), 0, 1, 7, 1, INDEX, INDEX);
        for (int i : new int[] {LOW, -1, 0, 1, FAR}) Scene.leavesNaming("23 an empty row has no cell " + i, Scene::told, x -> x.put(2, i, 5), INDEX);
        for (int v : new int[] {LOW, -1, 0, FAR}) Due.is("23 any number is put", Scene.told().put(1, 0, v), 1);
    }

    // 24: LOST: UNKNOWN, OUTSIDE: lane; FAULTS CAST (nothing is no CAST), NULL, INDEX
    private static void cells() {
        Due.is("24 sheet 0", Scene.told().cell(0, 0, 2), 'g');
        losing("24 sheet", (x, k) -> x.cell(k, 0, 2), 0, 3, 0);
        losing("24 lane", (x, lane) -> x.cell(1, 0, lane), 0, 2, 0);
        losing("24 lane of nothing", (x, lane) -> x.cell(3, 0, lane), 0, 2, 0);
        for (int lane = 0; lane < 3; lane++) {
            int of = lane;
            Scene.leaves("24 lane " + of + " of nothing", Scene::told, x -> x.cell(3, 0, of), LOST, 1);
            if (of != 0) Scene.leaves("24 lane " + of + " of bytes", Scene::told, x -> x.cell(1, 0, of), LOST, 2);
            if (of != 1) Scene.leaves("24 lane " + of + " of shorts", Scene::told, x -> x.cell(2, 0, of), LOST, 2);
            if (of != 2) Scene.leaves("24 lane " + of + " of ints", Scene::told, x -> x.cell(0, 0, of), LOST, 2);
        }
        losing("24 i", (x, i) -> x.cell(1, i, 0), 0, 2, 3);
        losing("24 i of none", (x, i) -> x.cell(2, i, 1), 0, -1, 3);
        Scene.leaves("24 first cell", Scene::told, x -> x.cell(1, 0, 0), 7, 0);
        Scene.leaves("24 last cell", Scene::told, x -> x.cell(1, 2, 0), 9, 0);
    }

    // 25: UNKNOWN; FAULTS NULL (the first, the other), INDEX: i, j, n below 0 or beyond
    private static void copies() {
        naming("25 sheet", (x, k) -> x.copy(k, 0, 0, 0, 1), 0, 1, 3, NULL, UNKNOWN, UNKNOWN);
        naming("25 other", (x, other) -> x.copy(0, 0, other, 0, 1), 0, 1, 3, NULL, UNKNOWN, UNKNOWN);
        naming("25 i", (x, i) -> x.copy(0, i, 0, 0, 1), 0, 1, 7, 1, INDEX, INDEX);
        naming("25 i with no cells", (x, i) -> x.copy(0, i, 0, 0, 0), 0, 0, 8, 0, INDEX, INDEX);
        naming("25 j", (x, j) -> x.copy(0, 0, 0, j, 1), 0, 1, 7, 1, INDEX, INDEX);
        naming("25 j with no cells", (x, j) -> x.copy(0, 0, 0, j, 0), 0, 0, 8, 0, INDEX, INDEX);
        naming("25 n", (x, n) -> x.copy(0, 0, 0, 0, n), 0, 0, 8, 8, INDEX, INDEX);
        naming("25 n from 3 on", (x, n) -> x.copy(0, 3, 0, 0, n), 0, 0, 5, 5, INDEX, INDEX);
        naming("25 n to 3 on", (x, n) -> x.copy(0, 0, 0, 3, n), 0, 0, 5, 5, INDEX, INDEX);
        naming("25 n of an empty row", (x, n) -> x.copy(2, 0, 2, 0, n), 0, 0, 0, 0, INDEX, INDEX);
        for (int far : new int[] {LOW, FAR}) {
            Scene.leavesNaming("25 i and n " + far, Scene::told, x -> x.copy(0, far, 0, 0, far), INDEX);
            Scene.leavesNaming("25 j and n " + far, Scene::told, x -> x.copy(0, 0, 0, far, far), INDEX);
            Scene.leavesNaming("25 i, j and n " + far, Scene::told, x -> x.copy(0, far, 0, far, far), INDEX);
        }
    }

    // 26, 27: UNKNOWN. 28: UNKNOWN; OUTSIDE. 31: OUTSIDE
    private static void parts() {
        within("26 hedge", (x, h) -> x.tell(h), 0, 103, 1, 108, UNKNOWN);
        within("27 hedge", (x, h) -> x.lean(h), 0, 0, 1, 20, UNKNOWN);
        naming("28 hedge", (x, h) -> x.as(h, 0), 0, 1, 1, 1, UNKNOWN, UNKNOWN);
        naming("28 kind", (x, kind) -> x.as(1, kind), 0, 1, 2, 1, OUTSIDE, OUTSIDE);
        within("31 what", (x, what) -> x.many(what), 0, 3, 2, 3, OUTSIDE);
    }

    private static String textOf(int gardens) {
        return "g1" + "h22".repeat(gardens - 1);
    }

    private static long[] callsOfGarden(WordHedges x, int g, int side) {
        return new long[] {x.wants(g), x.say(g, side, 0, 0), x.light(g, 0), x.off(g, 0), x.said(g, side, 0), x.fines(g, 20)};
    }

    // "there is no such GARDEN": the last one of 2 .. 7 is one, the next is none
    private static void gardensByCount() {
        for (int count = 2; count <= 7; count++) {
            WordHedges x = Due.planted(textOf(count));
            Due.is("gardens", x.many(0), count);
            for (long answer : callsOfGarden(x, count - 1, 0)) Due.holds("the last of " + count + " gardens is one", answer >= 0);
            for (long answer : callsOfGarden(x, 0, 1)) Due.holds("the first of " + count + " gardens is one", answer >= 0);
            for (long answer : callsOfGarden(x, count, 0)) Due.is("the next of " + count + " gardens", answer, UNKNOWN);
            Due.is("to the right of " + count, x.say(count - 1, 1, 0, 0), UNKNOWN);
            Due.is("to the right of " + count, x.said(count - 1, 1, 0), UNKNOWN);
            Due.is("to the right of one ahead of the last", x.say(count - 2, 1, 0, 0), 10);
            Due.is("all gardens with goats", x.goats(0), (1 << count) - 1);
            Due.is("fines of the first", x.fines(0, 1), 30);
            Due.is("fines of the last", x.fines(count - 1, 1), 30);
            Due.is("fines of all", x.fines(-1, 1), 60 * (count - 1));
        }
    }

    private static long[] callsOfHedge(WordHedges x, int h) {
        return new long[] {x.ofHedge(h, 1), x.face(h, 1, 0), x.height(h, 0, 0), x.scold(0, 0, h, 0), x.reading(h, 0, 0, 0),
            x.quarrel(h, 0, 0, 0), x.tell(h), x.lean(h), x.as(h, 0)};
    }

    // "there is no such HEDGE": the last one of 1 .. 6 is one, the next is none
    private static void hedgesByCount() {
        for (int count = 2; count <= 7; count++) {
            WordHedges x = Due.planted(textOf(count));
            Due.is("hedges", x.many(1), count - 1);
            for (long answer : callsOfHedge(x, count - 2)) Due.holds("the last of " + (count - 1) + " hedges is one", answer >= 0);
            for (long answer : callsOfHedge(x, count - 1)) Due.is("the next of " + (count - 1) + " hedges", answer, UNKNOWN);
            Due.is("clip the last", x.clip(count - 2, 0, 1), NONE);
            Due.is("clip it again", x.clip(count - 2, 0, 2), 1);
            Due.is("clip the next", x.clip(count - 1, 0, 1), UNKNOWN);
            Due.is("heights of all", x.mean(0, 0), 24);
            Due.is("a round to the last", x.round(0, 1), count - 2 + 2 * (count - 1));
        }
    }

    private static void bare(String what, ToLongFunction<WordHedges> call, long due) {
        Scene.leaves(what + " without gardens", Scene::bare, call, due, Scene.STAYS);
    }

    // 1: No GARDENS. "STATE: there are no GARDENS"; 31: 0 all without GARDENS
    private static void withoutGardens() {
        for (int g : new int[] {LOW, -1, 0, 1, FAR}) {
            bare("3", x -> x.wants(g), UNKNOWN);
            bare("5", x -> x.say(g, 1, 0, 0), UNKNOWN);
            bare("9", x -> x.light(g, 0), UNKNOWN);
            bare("11", x -> x.off(g, 0), UNKNOWN);
            bare("15", x -> x.said(g, 1, 0), UNKNOWN);
            bare("4", x -> x.ofHedge(g, 0), UNKNOWN);
            bare("6", x -> x.clip(g, 0, 0), UNKNOWN);
            bare("7", x -> x.face(g, 0, 0), UNKNOWN);
            bare("8", x -> x.height(g, 0, 0), UNKNOWN);
            bare("13", x -> x.reading(g, 0, 0, 0), UNKNOWN);
            bare("16", x -> x.quarrel(g, 0, 0, 0), UNKNOWN);
            bare("26", x -> x.tell(g), UNKNOWN);
            bare("27", x -> x.lean(g), UNKNOWN);
            Scene.leaves("28 without gardens", Scene::bare, x -> x.as(g, 0), UNKNOWN, 0);
            bare("12", x -> x.scold(0, 0, g, 0), g == -1 ? STATE : UNKNOWN);
            bare("19", x -> x.fines(g, 0), g == -1 ? 0 : UNKNOWN);
        }
        bare("10", x -> x.goats(0), STATE);
        bare("17", x -> x.peace(29), STATE);
        bare("18", x -> x.round(30, 20), STATE);
        bare("20", x -> x.mean(0, 0), LOST);
        bare("20", x -> x.mean(0, 1), LOST);
        bare("14", x -> x.back(0), 0);
        bare("14", x -> x.back(1), OUTSIDE);
        bare("14", x -> x.back(-1), OUTSIDE);
        bare("29", x -> x.trace(), 0);
        for (int what = 0; what < 3; what++) {
            int of = what;
            bare("31", x -> x.many(of), 0);
        }
        bare("31", x -> x.many(3), OUTSIDE);
        bare("31", x -> x.many(-1), OUTSIDE);
    }
}
