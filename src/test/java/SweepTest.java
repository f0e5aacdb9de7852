import java.lang.reflect.InvocationTargetException;
import java.lang.reflect.Method;
import java.util.Arrays;
import java.util.HashMap;
import java.util.Map;

/**
 * Every call with every combination of numbers at, about and far beyond the document's edges, on the class and on
 * PlainModel, in four states: both answer alike, fault() too, and neither throws.
 */
public final class SweepTest {
    private static final int LOW = Integer.MIN_VALUE, FAR = Integer.MAX_VALUE;
    /** For calls of up to three numbers, of four, of five. */
    private static final int[] MANY = {LOW, LOW + 1, -100, -10, -9, -8, -4, -3, -2, -1, 0, 1, 2, 3, 4, 5, 6, 7, 10, 11, 19, 20, 21, 28, 29,
        30, 31, 59, 60, 61, 127, 128, 239, 240, 241, 32767, 32768, FAR - 1, FAR};
    private static final int[] SOME = {LOW, -9, -4, -3, -2, -1, 0, 1, 2, 3, 4, 7, 8, 9, 20, 21, 29, 30, 31, FAR};
    private static final int[] FEW = {LOW, -1, 0, 1, 2, 3, 4, 8, 9, FAR};
    /** An object is used for 512 calls at most. */
    private static final int MOST_CALLS = 500;
    private static final String SEVEN = "g9h38y47b36h65y24b23";

    private static final Map<String, Method> METHODS = new HashMap<>();
    private static int wrong = 0;

    private final int state;
    private WordHedges real = new WordHedges();
    private PlainModel model = new PlainModel();
    private int calls = 0;

    private SweepTest(int state) {
        this.state = state;
    }

    public static void main(String[] args) throws ReflectiveOperationException {
        long all = 0;
        for (Method m : WordHedges.class.getDeclaredMethods()) {
            if (!java.lang.reflect.Modifier.isPublic(m.getModifiers())) continue;
            for (int state = 0; state < 4; state++) all += new SweepTest(state).sweep(m.getName(), m.getParameterCount());
        }
        System.out.println(wrong == 0 ? all + " calls are as the model's" : wrong + " calls are not as the model's");
        if (wrong != 0) System.exit(1);
    }

    private long sweep(String name, int count) throws ReflectiveOperationException {
        int[] edges = count <= 3 ? MANY : count == 4 ? SOME : FEW;
        long combinations = 1;
        for (int k = 0; k < count; k++) combinations *= edges.length;
        prepare();
        for (long c = 0; c < combinations; c++) {
            if (calls >= MOST_CALLS) prepare();
            Integer[] numbers = new Integer[count];
            long rest = c;
            for (int k = 0; k < count; k++) {
                numbers[k] = edges[(int) (rest % edges.length)];
                rest /= edges.length;
            }
            alike(name, numbers);
            alike("fault");
        }
        return combinations;
    }

    /** State 0: a new object; 1: nothing but sheets; 2: two gardens; 3: seven gardens, and all readings there can be. */
    private void prepare() throws ReflectiveOperationException {
        real = new WordHedges();
        model = new PlainModel();
        calls = 0;
        if (state == 0) return;
        alike("sheet", 1, 0, 3);
        alike("put", 1, 1, -7);
        alike("sheet", 2, 1, 0);
        String text = state == 1 ? "g5h" : state == 2 ? "g5b35" : SEVEN;
        alike("sheet", 0, 2, text.length() + 1);
        for (int i = 0; i < text.length(); i++) alike("put", 0, i, (int) text.charAt(i));
        alike("gardens", 0, 2, 0, text.length());
        for (int h = 0; h < 6; h++) {
            alike("say", h, 1, 5 * h, h % 2 == 0 ? 3 : -2);
            alike("say", h + 1, 0, 5 * h + 4, h % 3 == 0 ? -1 : 2);
            alike("clip", h, 4 * h, h);
        }
        for (int k = 0; k < (state == 3 ? 10 : 2); k++) {
            int h = k % 6;
            alike("reading", h, k % 2, 3 * k, model.face(h, k % 2, 3 * k));
        }
        alike("sheet", 3, 0, -1);
    }

    private void alike(String name, Integer... numbers) throws ReflectiveOperationException {
        calls++;
        String due = answer(PlainModel.class, model, name, numbers);
        String got = answer(WordHedges.class, real, name, numbers);
        if (due.equals(got)) return;
        wrong++;
        if (wrong <= 20) System.out.println("state " + state + ": " + name + Arrays.toString(numbers) + " answered " + got + ", the model " + due);
    }

    private static String answer(Class<?> of, Object on, String name, Integer[] numbers) throws ReflectiveOperationException {
        try {
            return String.valueOf(method(of, name, numbers.length).invoke(on, (Object[]) numbers));
        } catch (InvocationTargetException e) {
            return "thrown: " + e.getCause();
        }
    }

    private static Method method(Class<?> of, String name, int count) throws ReflectiveOperationException {
        String key = of.getName() + "." + name;
        Method known = METHODS.get(key);
        if (known != null) return known;
        Class<?>[] ints = new Class<?>[count];
        Arrays.fill(ints, int.class);
        Method found = of.getDeclaredMethod(name, ints);
        METHODS.put(key, found);
        return found;
    }
}
