import java.util.ArrayDeque;
import java.util.ArrayList;
import java.util.Arrays;
import java.util.HashMap;
import java.util.List;
import java.util.Map;
import java.util.regex.Matcher;
import java.util.regex.Pattern;

/**
 * The document once more, in another way than the class goes: each answer begins at dawn 0, faults are thrown by the
 * machine, a text is a pattern, the clipper's round is a search. For ModelTest, which calls it by the names of the face.
 */
final class PlainModel {
    private static final int UNKNOWN = -1, OUTSIDE = -2, STATE = -3, FULL = -4, NONE = -9;
    private static final long LOST = Long.MIN_VALUE;
    private static final Pattern TEXT = Pattern.compile("g([0-9][hyb][0-9]){1,6}[0-9]");

    private String text = "";
    private int count = 0;
    private int[][][] words = new int[0][0][0];
    private int[][] clips = new int[0][0];
    private final List<int[]> readings = new ArrayList<>();
    private final Object[] sheets = new Object[4];
    private int trace = 0;
    private int fault = 0;

    // ---- faults

    private interface Body {
        long run();
    }

    private long byMachine(boolean isLong, Body body) {
        fault = 0;
        try {
            return body.run();
        } catch (NullPointerException e) {
            fault = 1;
        } catch (ClassCastException | ArrayStoreException e) {
            fault = 2;
        } catch (IndexOutOfBoundsException e) {
            fault = 3;
        } catch (NegativeArraySizeException e) {
            fault = 4;
        }
        return isLong ? LOST : -10 - fault;
    }

    private static int lengthOf(Object row, int lane) {
        return lane == 0 ? ((byte[]) row).length : lane == 1 ? ((short[]) row).length : ((int[]) row).length;
    }

    private static int cellOf(Object row, int lane, int i) {
        return lane == 0 ? ((byte[]) row)[i] : lane == 1 ? ((short[]) row)[i] : ((int[]) row)[i];
    }

    private static Object newRow(int lane, int n) {
        if (lane == 0) return new byte[n];
        if (lane == 1) return new short[n];
        return new int[n];
    }

    // ---- 1

    int gardens(int sheet, int lane, int i, int n) {
        fault = 0;
        if (sheet < 0 || sheet > 3) return UNKNOWN;
        if (lane < 0 || lane > 2) return OUTSIDE;
        return (int) byMachine(false, () -> {
            Object row = sheets[sheet];
            int length = lengthOf(row, lane);
            // The class comes to INDEX where the machine might run out of room for so many.
            char[] codes = new char[Math.min(n, 60)];
            if (i < 0 || (long) i + n > length) throw new IndexOutOfBoundsException();
            for (int k = 0; k < n; k++) {
                int code = cellOf(row, lane, i + k);
                codes[k] = code > 0 && code < 128 ? (char) code : '?';
            }
            return planted(new String(codes));
        });
    }

    private int planted(String told) {
        for (int p = 1; p <= told.length(); p++) {
            Matcher m = TEXT.matcher(told.substring(0, p));
            if (!m.matches() && !m.hitEnd()) return -100 - (p - 1);
        }
        if (!TEXT.matcher(told).matches()) return -100 - told.length();
        text = told;
        count = told.replaceAll("g|[hyb][0-9]", "").length();
        words = new int[count - 1][2][30];
        clips = new int[count - 1][30];
        for (int[] c : clips) Arrays.fill(c, NONE);
        readings.clear();
        return count;
    }

    private boolean garden(int g) {
        return g >= 0 && g < count;
    }

    private boolean hedge(int h) {
        return h >= 0 && h < count - 1;
    }

    private int want(int g) {
        return text.charAt(1 + 3 * g) - '0';
    }

    private char letter(int h) {
        return text.charAt(2 + 3 * h);
    }

    private int high(int h) {
        return text.charAt(3 + 3 * h) - '0';
    }

    int wants(int g) {
        return garden(g) ? want(g) : UNKNOWN;
    }

    int ofHedge(int h, int what) {
        if (!hedge(h)) return UNKNOWN;
        if (what == 0) return "hyb".indexOf(letter(h));
        return what == 1 ? high(h) : OUTSIDE;
    }

    private static boolean day(int d) {
        return d >= 0 && d <= 29;
    }

    private static boolean dawn(int d) {
        return d >= 0 && d <= 30;
    }

    private static boolean side(int s) {
        return s == 0 || s == 1;
    }

    private static boolean feet(int f) {
        return f >= 0 && f <= 20;
    }

    int say(int g, int side, int day, int word) {
        if (!garden(g)) return UNKNOWN;
        if (!side(side) || !day(day) || word < -3 || word > 3) return OUTSIDE;
        int h = g - 1 + side;
        if (!hedge(h)) return UNKNOWN;
        int was = words[h][1 - side][day];
        words[h][1 - side][day] = word;
        return was + 10;
    }

    int clip(int h, int day, int feet) {
        if (!hedge(h)) return UNKNOWN;
        if (!day(day) || !feet(feet) && feet != NONE) return OUTSIDE;
        int was = clips[h][day];
        clips[h][day] = feet;
        return was;
    }

    // ---- 2

    private int flank(int h, int side, int dawn) {
        int inches = 12 * high(h);
        for (int d = 0; d < dawn; d++) {
            int w = words[h][side][d];
            int more = 0;
            if (letter(h) == 'h') more = w > 0 ? 12 * w : 3 * w;
            if (letter(h) == 'y') more = w > 0 ? 6 * w : 3 * w;
            if (letter(h) == 'b') more = w > 0 ? 6 * w : w < 0 ? 0 : -6;
            inches += more;
            if (clips[h][d] != NONE && inches > 12 * clips[h][d]) inches = 12 * clips[h][d];
            if (inches < 0) inches = 0;
            if (inches > 240) inches = 240;
        }
        return inches;
    }

    private int lesser(int h, int dawn) {
        return Math.min(flank(h, 0, dawn), flank(h, 1, dawn));
    }

    int face(int h, int side, int dawn) {
        if (!hedge(h)) return UNKNOWN;
        return side(side) && dawn(dawn) ? flank(h, side, dawn) : OUTSIDE;
    }

    int height(int h, int dawn, int what) {
        if (!hedge(h)) return UNKNOWN;
        if (!dawn(dawn) || what < 0 || what > 1) return OUTSIDE;
        return what == 0 ? lesser(h, dawn) : flank(h, 0, dawn) - flank(h, 1, dawn) + 1000;
    }

    int light(int g, int dawn) {
        if (!garden(g)) return UNKNOWN;
        if (!dawn(dawn)) return OUTSIDE;
        int light = 20;
        for (int h = 0; h < count - 1; h++) {
            if (h == g || h + 1 == g) light -= lesser(h, dawn) / 12;
        }
        return Math.max(light, 0);
    }

    int goats(int dawn) {
        if (!dawn(dawn)) return OUTSIDE;
        if (count == 0) return STATE;
        int set = 1;
        for (int g = 1; g < count; g++) {
            if ((set >> (g - 1) & 1) == 1 && lesser(g - 1, dawn) < 36) set |= 1 << g;
        }
        return set;
    }

    int off(int g, int dawn) {
        if (!garden(g)) return UNKNOWN;
        if (!dawn(dawn)) return OUTSIDE;
        return (light(g, dawn) >= want(g) ? 1 : 0) + ((goats(dawn) >> g & 1) == 0 ? 1 : 0);
    }

    // ---- 3

    private int scolded(int h, int side, int day, int feet) {
        int was = words[h][side][day];
        int found = NONE;
        for (int w = 3; w >= was; w--) {
            words[h][side][day] = w;
            if (flank(h, side, 30) >= 12 * feet) found = w;
        }
        words[h][side][day] = was;
        return found;
    }

    int scold(int day, int feet, int h, int side) {
        if (h != -1 && !hedge(h)) return UNKNOWN;
        if (!day(day) || !feet(feet) || !side(side)) return OUTSIDE;
        if (count == 0) return STATE;
        if (h >= 0) {
            int w = scolded(h, side, day, feet);
            return w == NONE ? NONE : w + 10;
        }
        int more = 0;
        boolean all = true;
        for (int k = 0; k < 2 * (count - 1); k++) {
            int w = scolded(k / 2, k % 2, day, feet);
            all &= w != NONE;
            more += w - words[k / 2][k % 2][day];
        }
        return all ? more : NONE;
    }

    int reading(int h, int side, int dawn, int inches) {
        if (!hedge(h)) return UNKNOWN;
        if (!side(side) || !dawn(dawn) || inches < 0 || inches > 240) return OUTSIDE;
        if (readings.size() == 10) return FULL;
        readings.add(new int[] {h, side, dawn, inches});
        return readings.size() - 1;
    }

    int back(int k) {
        if (k < 0 || k > readings.size()) return OUTSIDE;
        for (int n = 0; n < k; n++) readings.remove(readings.size() - 1);
        return readings.size();
    }

    int said(int g, int side, int day) {
        if (!garden(g)) return UNKNOWN;
        if (!side(side) || !day(day)) return OUTSIDE;
        int h = g - 1 + side;
        if (!hedge(h)) return UNKNOWN;
        int was = words[h][1 - side][day];
        int set = 0;
        for (int w = -3; w <= 3; w++) {
            words[h][1 - side][day] = w;
            if (readings.stream().allMatch(r -> flank(r[0], r[1], r[2]) == r[3])) set += 1 << w + 3;
        }
        words[h][1 - side][day] = was;
        return set;
    }

    // ---- 4

    private int choice(int g, int h, int side, int day) {
        int left = words[h][0][day];
        int right = words[h][1][day];
        int[] points = new int[3];
        for (int w = -1; w <= 1; w++) {
            words[h][side][day] = w;
            words[h][1 - side][day] = 0;
            points[w + 1] = off(g, day + 1);
        }
        words[h][0][day] = left;
        words[h][1][day] = right;
        int most = Math.max(points[0], Math.max(points[1], points[2]));
        return points[1] == most ? 0 : points[0] == most ? -1 : 1;
    }

    int quarrel(int h, int first, int last, int side) {
        if (!hedge(h)) return UNKNOWN;
        if (!day(first) || !day(last) || first > last || !side(side)) return OUTSIDE;
        int[][] told = {words[h][0].clone(), words[h][1].clone()};
        for (int d = first; d <= last; d++) {
            int left = choice(h, h, 0, d);
            int right = choice(h + 1, h, 1, d);
            words[h][0][d] = left;
            words[h][1][d] = right;
        }
        int said = words[h][side][last];
        words[h] = told;
        return said + 10;
    }

    int peace(int day) {
        if (!day(day)) return OUTSIDE;
        if (count == 0) return STATE;
        int set = 0;
        for (int g = 0; g < count; g++) {
            int now = off(g, day + 1);
            for (int k = 0; k < 6; k++) {
                int side = k % 2;
                if (!hedge(g - 1 + side)) continue;
                int was = say(g, side, day, k / 2 - 1) - 10;
                if (off(g, day + 1) > now) set |= 1 << g;
                say(g, side, day, was);
            }
        }
        return set;
    }

    // ---- 5

    /** Minutes till all are clipped, by walks of single minutes between gardens and sets of clipped hedges. */
    int round(int dawn, int c) {
        if (!dawn(dawn) || !feet(c)) return OUTSIDE;
        if (count == 0) return STATE;
        int toClip = 0;
        int minutes = 0;
        for (int h = 0; h < count - 1; h++) {
            int above = Math.max(0, flank(h, 0, dawn) - 12 * c) + Math.max(0, flank(h, 1, dawn) - 12 * c);
            if (above > 0) toClip |= 1 << h;
            while (above > 0) {
                minutes++;
                above -= 12;
            }
        }
        return minutes + fewestSteps(toClip);
    }

    private int fewestSteps(int toClip) {
        Map<Integer, Integer> steps = new HashMap<>();
        ArrayDeque<Integer> next = new ArrayDeque<>();
        int start = reached(0, 0);
        steps.put(start, 0);
        next.add(start);
        while (!next.isEmpty()) {
            int at = next.remove();
            int g = at & 15;
            int done = at >> 4;
            if ((done & toClip) == toClip) return steps.get(at);
            for (int to = g - 1; to <= g + 1; to += 2) {
                if (!garden(to) || steps.containsKey(reached(to, done))) continue;
                steps.put(reached(to, done), steps.get(at) + 1);
                next.add(reached(to, done));
            }
        }
        throw new IllegalStateException("no way");
    }

    private int reached(int g, int done) {
        if (hedge(g)) done |= 1 << g;
        if (hedge(g - 1)) done |= 1 << g - 1;
        return done << 4 | g;
    }

    int fines(int g, int c) {
        if (g != -1 && !garden(g)) return UNKNOWN;
        if (!feet(c)) return OUTSIDE;
        int[] coins = new int[8];
        for (int h = 0; h < count - 1; h++) {
            for (int dawn = 1; dawn <= 30; dawn++) {
                int inches = lesser(h, dawn);
                if (inches <= 12 * c) continue;
                int payer = flank(h, 0, dawn) >= flank(h, 1, dawn) ? h : h + 1;
                for (int coin = 0; coin < inches / 12 / 2; coin++) {
                    coins[h]++;
                    coins[h + 1]++;
                }
                if (inches / 12 % 2 == 1) coins[payer]++;
            }
        }
        return g == -1 ? Arrays.stream(coins).sum() : coins[g];
    }

    long mean(int dawn, int which) {
        if (!dawn(dawn) || which < 0 || which > 1 || count == 0) return LOST;
        int sum = 0;
        for (int h = 0; h < count - 1; h++) sum += lesser(h, dawn);
        int divisor = java.math.BigInteger.valueOf(sum).gcd(java.math.BigInteger.valueOf(count - 1)).intValue();
        return which == 0 ? sum / divisor : (count - 1) / divisor;
    }

    // ---- 6

    int sheet(int k, int lane, int n) {
        fault = 0;
        if (k < 0 || k > 3) return UNKNOWN;
        if (lane < 0 || lane > 2 || n > 60) return OUTSIDE;
        return (int) byMachine(false, () -> {
            sheets[k] = newRow(lane, n);
            return 1;
        });
    }

    int lose(int k) {
        if (k < 0 || k > 3) return UNKNOWN;
        int had = sheets[k] == null ? 0 : 1;
        sheets[k] = null;
        return had;
    }

    int put(int k, int i, int v) {
        fault = 0;
        if (k < 0 || k > 3) return UNKNOWN;
        return (int) byMachine(false, () -> {
            Object row = sheets[k];
            if (row instanceof byte[] b) b[i] = (byte) v;
            else if (row instanceof short[] s) s[i] = (short) v;
            else ((int[]) row)[i] = v;
            return 1;
        });
    }

    long cell(int k, int i, int lane) {
        fault = 0;
        if (k < 0 || k > 3 || lane < 0 || lane > 2) return LOST;
        return byMachine(true, () -> cellOf(sheets[k], lane, i));
    }

    int copy(int k, int i, int other, int j, int n) {
        fault = 0;
        if (k < 0 || k > 3 || other < 0 || other > 3) return UNKNOWN;
        return (int) byMachine(false, () -> {
            System.arraycopy(sheets[k], i, sheets[other], j, n);
            return n;
        });
    }

    private int begun(int body) {
        trace = trace * 31 + body;
        return 0;
    }

    int tell(int h) {
        if (!hedge(h)) return UNKNOWN;
        String bodies = letter(h) == 'h' ? "1" : letter(h) == 'y' ? "21" : "3211";
        for (char b : bodies.toCharArray()) begun(b - '0');
        return letter(h) == 'h' ? high(h) : letter(h) == 'y' ? high(h) + 100 : 2 * high(h) + 100;
    }

    int lean(int h) {
        if (!hedge(h)) return UNKNOWN;
        begun(letter(h) == 'b' ? 5 : 4);
        return letter(h) == 'b' ? 20 : h;
    }

    int as(int h, int kind) {
        fault = 0;
        if (!hedge(h)) return UNKNOWN;
        if (kind < 0 || kind > 2) return OUTSIDE;
        String isOne = "h0 y0 y1 b0 b1 b2";
        if (isOne.contains("" + letter(h) + kind)) return 1;
        fault = 2;
        return -12;
    }

    int trace() {
        return trace;
    }

    int fault() {
        return fault;
    }

    int many(int what) {
        return what == 0 ? count : what == 1 ? Math.max(count - 1, 0) : what == 2 ? readings.size() : OUTSIDE;
    }
}
