/**
 * Promises 21 to 31: the document's sentences that name an edge (nothing, none, 60 cells, cut numbers, a wrap-around), in
 * its order, each with a test of its own; what numbers a call takes is in BoundsTest, what it refuses first in RefusalsTest.
 */
public final class SheetEdgesTest {
    private static final int OUTSIDE = Scene.OUTSIDE, UNKNOWN = Scene.UNKNOWN;
    private static final int NULL = Scene.NULL, CAST = Scene.CAST, INDEX = Scene.INDEX, SIZE = Scene.SIZE;
    private static final int LOW = Scene.LOW, FAR = Scene.FAR;
    private static final long LOST = Scene.LOST;

    public static void main(String[] args) {
        rowsOfNoneTo60();
        newRowsAreOfZeroes();
        rowsThatAreKept();
        nothingAndNone();
        sheetsApart();
        cutToBytes();
        cutToShorts();
        intsAreWhole();
        copiesOfNone();
        copiesOfAll();
        copiesWithinOneRow();
        copiesBeyond();
        copiesByLane();
        copiesThatFault();
        tellingsByBodies();
        traceWraps();
        leaningByNumber();
        asKinds();
        faultByFault();
        manyAtFirst();
        Due.end();
    }

    // 6: "a row of 0 .. 60 numbers (0 at first) of a LANE"
    private static void rowsOfNoneTo60() {
        for (int lane = 0; lane < 3; lane++) {
            for (int n = 0; n <= 60; n++) {
                WordHedges x = new WordHedges();
                Due.is("a row of " + n, x.sheet(lane, lane, n), 1);
                for (int i = 0; i < n; i++) Due.is("0 at first", x.cell(lane, i, lane), 0);
                Due.is("behind the last", x.cell(lane, n, lane), LOST);
                Due.is("behind the last", x.fault(), 3);
                Due.is("behind the last", x.put(lane, n, 1), INDEX);
                if (n > 0) Due.is("the last", x.put(lane, n - 1, 1), 1);
                Due.is("ahead of the first", x.put(lane, -1, 1), INDEX);
            }
        }
    }

    // 21: "A SHEET gets a new row"; 6: "(0 at first)"
    private static void newRowsAreOfZeroes() {
        int[][] rows = {{2, 60}, {0, 60}, {1, 60}, {2, 3}, {2, 60}, {2, 60}};
        WordHedges x = new WordHedges();
        for (int k = 0; k < rows.length; k++) {
            int lane = rows[k][0];
            int n = rows[k][1];
            if (k == 5) Due.is("ahead of it nothing", x.lose(0), 1);
            x.sheet(0, lane, n);
            for (int i : new int[] {0, 1, n - 1}) {
                Due.is("0 in row " + k, x.cell(0, i, lane), 0);
                Due.is("put", x.put(0, i, -1), 1);
                Due.is("put", x.cell(0, i, lane), -1);
            }
        }
        x.sheet(0, 0, 0);
        x.sheet(0, 2, 60);
        for (int i : new int[] {0, 1, 59}) Due.is("0 behind none", x.cell(0, i, 2), 0);
    }

    // 21: OUTSIDE, SIZE: the row that is there stays
    private static void rowsThatAreKept() {
        WordHedges x = new WordHedges();
        Scene.row(x, 2, 1, 5, 6);
        int[][] wrong = {{3, 1}, {-1, 1}, {0, 61}, {0, FAR}, {0, -1}, {0, LOW}};
        int[] due = {OUTSIDE, OUTSIDE, OUTSIDE, OUTSIDE, SIZE, SIZE};
        for (int k = 0; k < wrong.length; k++) {
            Due.is("refused", x.sheet(2, wrong[k][0], wrong[k][1]), due[k]);
            Due.is("its fault", x.fault(), due[k] == SIZE ? 4 : 0);
            Due.is("it stays", x.cell(2, 0, 1), 5);
            Due.is("it stays", x.cell(2, 1, 1), 6);
            Due.is("it stays", x.cell(2, 2, 1), LOST);
        }
        Due.is("nothing stays nothing", x.sheet(3, 0, -1), SIZE);
        Due.is("nothing stays nothing", x.lose(3), 0);
    }

    // 6: "SHEETS have nothing (at first), or a row of 0"; 22: "1; 0: it had nothing"
    private static void nothingAndNone() {
        for (int k = 0; k < 4; k++) {
            WordHedges x = new WordHedges();
            Due.is("nothing", x.lose(k), 0);
            Due.is("none", x.sheet(k, 0, 0), 1);
            Due.is("a row of none is something", x.put(k, 0, 0), INDEX);
            Due.is("of its lane", x.cell(k, 0, 1), LOST);
            Due.is("of its lane", x.fault(), 2);
            Due.is("lost", x.lose(k), 1);
            Due.is("lost", x.lose(k), 0);
            Due.is("nothing again", x.put(k, 0, 0), NULL);
            Due.is("of no lane", x.cell(k, 0, 1), LOST);
            Due.is("of no lane", x.fault(), 1);
            Due.is("copy from it", x.copy(k, 0, k, 0, 0), NULL);
            Due.is("gardens of it", x.gardens(k, 0, 0, 0), NULL);
        }
    }

    // 6: "SHEETS 0 .. 3": each has a row of its own
    private static void sheetsApart() {
        WordHedges x = new WordHedges();
        for (int k = 0; k < 4; k++) Scene.row(x, k, 2, k + 1, 10 * k);
        x.put(1, 0, 99);
        x.lose(2);
        long[] due = {1, 99, LOST, 4};
        for (int k = 0; k < 4; k++) Due.is("sheet " + k, x.cell(k, 0, 2), due[k]);
        for (int k = 0; k < 4; k++) Due.is("sheet " + k, x.cell(k, 1, 2), k == 2 ? LOST : 10 * k);
    }

    private static void cut(int lane, int[] put, int[] due) {
        for (int k = 0; k < put.length; k++) {
            WordHedges x = new WordHedges();
            x.sheet(0, lane, 1);
            Due.is("put " + put[k], x.put(0, 0, put[k]), 1);
            Due.is(put[k] + " in lane " + lane, x.cell(0, 0, lane), due[k]);
        }
    }

    // 6: "cut to its LANE: 0 bytes"
    private static void cutToBytes() {
        cut(0, new int[] {127, 128, 255, 256, -128, -129, -256, -257, 65536 + 7, LOW, FAR}, new int[] {127, -128, -1, 0, -128, 127, 0, -1, 7, 0, -1});
    }

    // 6: "1 shorts"
    private static void cutToShorts() {
        cut(1, new int[] {127, 128, 32767, 32768, 65535, 65536, -32768, -32769, -65536, -65537, LOW, FAR},
            new int[] {127, 128, 32767, -32768, -1, 0, -32768, 32767, 0, -1, 0, -1});
    }

    // 6: "2 ints"
    private static void intsAreWhole() {
        int[] whole = {0, 127, 128, 32768, 65536, -32769, LOW, LOW + 1, FAR, FAR - 1};
        cut(2, whole, whole);
    }

    // 25: "n cells", none; Terms: "also where i is not 0 .. how many there are, if none of them is taken, too"
    private static void copiesOfNone() {
        for (int n : new int[] {0, 1, 60}) {
            WordHedges x = new WordHedges();
            x.sheet(0, 1, n);
            x.sheet(1, 1, 2);
            Due.is("from the first", x.copy(0, 0, 1, 0, 0), 0);
            Due.is("from behind the last", x.copy(0, n, 1, 2, 0), 0);
            Due.is("from beyond", x.copy(0, n + 1, 1, 0, 0), INDEX);
            Due.is("from below", x.copy(0, -1, 1, 0, 0), INDEX);
            Due.is("to behind the last", x.copy(1, 2, 0, n, 0), 0);
            Due.is("to beyond", x.copy(1, 0, 0, n + 1, 0), INDEX);
            Due.is("to below", x.copy(1, 0, 0, -1, 0), INDEX);
            Due.is("a text of none behind the last", x.gardens(0, 1, n, 0), -100);
            Due.is("a text of none beyond", x.gardens(0, 1, n + 1, 0), INDEX);
            Due.is("a text of none below", x.gardens(0, 1, -1, 0), INDEX);
        }
    }

    // 25: "n cells of a SHEET from i on go to another one": all 60
    private static void copiesOfAll() {
        WordHedges x = new WordHedges();
        x.sheet(0, 2, 60);
        x.sheet(3, 2, 60);
        for (int i = 0; i < 60; i++) x.put(0, i, 1000 + i);
        Due.is("all", x.copy(0, 0, 3, 0, 60), 60);
        for (int i = 0; i < 60; i++) {
            Due.is("as they were", x.cell(3, i, 2), 1000 + i);
            Due.is("there, too", x.cell(0, i, 2), 1000 + i);
        }
        Due.is("one more", x.copy(0, 0, 3, 0, 61), INDEX);
        Due.is("from 1 on", x.copy(0, 1, 3, 0, 60), INDEX);
        Due.is("to 1 on", x.copy(0, 0, 3, 1, 60), INDEX);
        Due.is("the last to the first", x.copy(0, 59, 3, 0, 1), 1);
        Due.is("the first to the last", x.copy(0, 0, 3, 59, 1), 1);
        Due.is("the first", x.cell(3, 0, 2), 1059);
        Due.is("the last", x.cell(3, 59, 2), 1000);
        Due.is("between", x.cell(3, 1, 2), 1001);
        Due.is("between", x.cell(3, 58, 2), 1058);
    }

    // 25: "(perhaps the same) from j on, as they were"
    private static void copiesWithinOneRow() {
        for (int i = 0; i <= 5; i++) {
            for (int j = 0; j <= 5; j++) {
                for (int n = 0; n <= 5; n++) {
                    WordHedges x = new WordHedges();
                    Scene.row(x, 1, 0, 10, 11, 12, 13, 14);
                    boolean within = i + n <= 5 && j + n <= 5;
                    Due.is("copy " + i + " " + j + " " + n, x.copy(1, i, 1, j, n), within ? n : INDEX);
                    for (int k = 0; k < 5; k++) {
                        boolean taken = within && k >= j && k < j + n;
                        Due.is("cell " + k, x.cell(1, k, 0), 10 + (taken ? i + k - j : k));
                    }
                }
            }
        }
    }

    // 25: "INDEX: i, j, n below 0 or beyond", and nothing is copied then
    private static void copiesBeyond() {
        int[] wild = {LOW, LOW + 1, -1, 0, 1, 3, 4, 5, FAR - 1, FAR};
        for (int i : wild) {
            for (int j : wild) {
                for (int n : wild) {
                    WordHedges x = new WordHedges();
                    Scene.row(x, 0, 2, 1, 2, 3, 4);
                    Scene.row(x, 1, 2, 5, 6, 7, 8);
                    boolean within = i >= 0 && j >= 0 && n >= 0 && (long) i + n <= 4 && (long) j + n <= 4;
                    Due.is("copy " + i + " " + j + " " + n, x.copy(0, i, 1, j, n), within ? n : INDEX);
                    Due.is("fault of it", x.fault(), within ? 0 : 3);
                    for (int k = 0; k < 4 && !within; k++) Due.is("nothing is copied", x.cell(1, k, 2), 5 + k);
                }
            }
        }
    }

    // 25: "CAST (unlike LANES)", ahead of INDEX, if none is taken, too
    private static void copiesByLane() {
        for (int from = 0; from < 3; from++) {
            for (int to = 0; to < 3; to++) {
                WordHedges x = new WordHedges();
                Scene.row(x, 0, from, 3);
                Scene.row(x, 1, to, 4);
                Due.is("lanes", x.copy(0, 0, 1, 0, 1), from == to ? 1 : CAST);
                Due.is("lanes", x.fault(), from == to ? 0 : 2);
                Due.is("lanes", x.cell(1, 0, to), from == to ? 3 : 4);
                Due.is("none", x.copy(0, 0, 1, 0, 0), from == to ? 0 : CAST);
                Due.is("beyond", x.copy(0, 0, 1, 0, 2), from == to ? INDEX : CAST);
            }
        }
    }

    // 25: "NULL (the first, the other)"
    private static void copiesThatFault() {
        WordHedges x = new WordHedges();
        Scene.row(x, 0, 0, 3);
        Due.is("the first", x.copy(1, 0, 0, 0, 1), NULL);
        Due.is("the other", x.copy(0, 0, 1, 0, 1), NULL);
        Due.is("both", x.copy(1, 0, 2, 0, 0), NULL);
        Due.is("the same", x.copy(1, 0, 1, 0, 0), NULL);
        Due.is("its fault", x.fault(), 1);
        Due.is("the other gets none", x.lose(1), 0);
        Due.is("it stays", x.cell(0, 0, 0), 3);
    }

    // 6: "HEDGE (1): HIGH at first. YEW (2): what HEDGE's gives, and 100. BRAMBLE (3): what YEW's gives, and what HEDGE's gives"
    private static void tellingsByBodies() {
        for (int high = 0; high <= 9; high += 9) {
            String[] texts = {"g0h" + high + "0", "g0y" + high + "0", "g0b" + high + "0"};
            int[] due = {high, high + 100, 2 * high + 100};
            int[] traces = {1, 31 * 2 + 1, ((3 * 31 + 2) * 31 + 1) * 31 + 1};
            for (int kind = 0; kind < 3; kind++) {
                WordHedges x = Due.planted(texts[kind]);
                x.say(0, 1, 0, 3);
                x.clip(0, 1, 0);
                Due.is("tell " + texts[kind], x.tell(0), due[kind]);
                Due.is("trace of " + texts[kind], x.trace(), traces[kind]);
                Due.is("none is left by a refused one", x.tell(1), UNKNOWN);
                Due.is("none is left by a refused one", x.lean(-1), UNKNOWN);
                Due.is("trace of " + texts[kind], x.trace(), traces[kind]);
            }
        }
    }

    // 6: "TRACE (an int that wraps, 0 at first, becomes 31 times it and the number)"
    private static void traceWraps() {
        WordHedges x = Due.planted("g0h00");
        int[] due = {4, 128, 3972, 123136, 3817220, 118333824, -626618748, 2049655296};
        Due.is("0 at first", x.trace(), 0);
        for (int k = 0; k < due.length; k++) {
            x.lean(0);
            Due.is("trace " + k, x.trace(), due[k]);
        }
    }

    // 6: "LEANT on by a lent body (4): its number; BRAMBLES have their own (5): 20"
    private static void leaningByNumber() {
        String[] kinds = {"h", "y", "b"};
        for (int kind = 0; kind < 3; kind++) {
            WordHedges x = Due.planted("g0" + (kinds[kind] + "90").repeat(6));
            for (int h = 0; h < 6; h++) {
                int before = x.trace();
                Due.is("hedge " + h + " of kind " + kind, x.lean(h), kind == 2 ? 20 : h);
                Due.is("its body", x.trace(), 31 * before + (kind == 2 ? 5 : 4));
            }
            Due.is("hedge 6", x.lean(6), UNKNOWN);
        }
    }

    // 28: "CAST: it is none"
    private static void asKinds() {
        WordHedges x = Due.planted("g0h00y00b00");
        int[][] due = {{1, CAST, CAST}, {1, 1, CAST}, {1, 1, 1}};
        for (int h = 0; h < 3; h++) {
            for (int kind = 0; kind < 3; kind++) {
                Due.is("hedge " + h + " as " + kind, x.as(h, kind), due[h][kind]);
                Due.is("its fault", x.fault(), due[h][kind] == 1 ? 0 : 2);
            }
        }
    }

    // Terms: "it answers -10 less it ...; fault() tells it", 1 NULL, 2 CAST, 3 INDEX, 4 SIZE
    private static void faultByFault() {
        WordHedges x = new WordHedges();
        Due.is("0 ahead of any", x.fault(), 0);
        Due.is("NULL", x.put(0, 0, 0), -11);
        Due.is("NULL", x.fault(), 1);
        Due.is("told again", x.fault(), 1);
        Due.is("none", x.sheet(0, 0, 1), 1);
        Due.is("none", x.fault(), 0);
        Due.is("CAST", x.gardens(0, 1, 0, 0), -12);
        Due.is("CAST", x.fault(), 2);
        Due.is("INDEX", x.put(0, 1, 0), -13);
        Due.is("INDEX", x.fault(), 3);
        Due.is("SIZE", x.sheet(0, 0, -1), -14);
        Due.is("SIZE", x.fault(), 4);
        Due.is("refused", x.sheet(4, 0, -1), -1);
        Due.is("refused", x.fault(), 0);
        Due.is("LOST", x.cell(0, 1, 0), LOST);
        Due.is("INDEX", x.fault(), 3);
        Due.is("LOST", x.cell(0, 0, 3), LOST);
        Due.is("refused", x.fault(), 0);
    }

    // 31: "0 GARDENS, 1 HEDGES, 2 READINGS (0 all without GARDENS)"
    private static void manyAtFirst() {
        WordHedges x = new WordHedges();
        for (int what = 0; what < 3; what++) Due.is("none", x.many(what), 0);
        Due.is("a text that is not taken", Due.told(x, 0, "g0h0"), -104);
        for (int what = 0; what < 3; what++) Due.is("none still", x.many(what), 0);
        Due.told(x, 0, "g0h00");
        int[] due = {2, 1, 0};
        for (int what = 0; what < 3; what++) Due.is("the fewest", x.many(what), due[what]);
        Due.told(x, 0, "g0h00h00h00h00h00h00");
        for (int k = 0; k < 10; k++) x.reading(5, 1, 30, 0);
        int[] most = {7, 6, 10};
        for (int what = 0; what < 3; what++) Due.is("the most", x.many(what), most[what]);
    }
}
