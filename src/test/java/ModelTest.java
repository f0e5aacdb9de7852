import java.lang.reflect.InvocationTargetException;
import java.lang.reflect.Method;
import java.util.ArrayList;
import java.util.Arrays;
import java.util.List;
import java.util.Random;

/** Runs of 512 calls, ordinary and wrong ones, on the class and on PlainModel: both answer alike, and neither throws. */
public final class ModelTest {
    private static final int RUNS = 1500, CALLS = 512;
    private static final int[] WILD = {Integer.MIN_VALUE, Integer.MAX_VALUE, Integer.MIN_VALUE + 1, -10, -9, -1, 61, 256, 65536};
    /** Each call with what its numbers are; how often it stands here is how often it is called. */
    private static final String[] CALLS_OF_THE_FACE = {
        "gardens sheet lane cell n", "wants g", "ofHedge h two", "say g side day word", "say g side day word",
        "say g side day word", "say g side day word", "clip h day clip", "face h side dawn", "height h dawn two", "light g dawn",
        "goats dawn", "off g dawn", "scold day feet all side", "scold day few all side", "reading h side dawn inches", "back back",
        "said g side day", "said g side day", "quarrel h day day side", "quarrel h day day side", "peace day", "peace day",
        "round dawn feet", "fines ofAll few", "mean dawn two", "sheet sheet lane n", "lose sheet", "put sheet cell code",
        "put sheet cell number", "cell sheet cell lane", "copy sheet cell sheet cell n", "tell h", "lean h", "as h lane", "trace",
        "fault", "fault", "many lane"};

    private final Random random;
    private final WordHedges real = new WordHedges();
    private final PlainModel model = new PlainModel();
    private final List<String> told = new ArrayList<>();

    private ModelTest(int seed) {
        random = new Random(seed);
    }

    public static void main(String[] args) throws ReflectiveOperationException {
        int wrong = 0;
        for (int seed = 0; seed < RUNS && wrong == 0; seed++) {
            if (!new ModelTest(seed).runs()) wrong++;
        }
        System.out.println(wrong == 0 ? RUNS + " runs are as the model's" : "a run is not as the model's");
        if (wrong != 0) System.exit(1);
    }

    private boolean runs() throws ReflectiveOperationException {
        if (random.nextInt(20) > 0 && !plants()) return false;
        while (told.size() < CALLS) {
            if (random.nextInt(120) == 0 && told.size() < CALLS - 40) {
                if (!plants()) return false;
                continue;
            }
            String[] parts = CALLS_OF_THE_FACE[random.nextInt(CALLS_OF_THE_FACE.length)].split(" ");
            int[] numbers = new int[parts.length - 1];
            for (int k = 0; k < numbers.length; k++) numbers[k] = number(parts[k + 1]);
            if (parts[0].equals("reading") && random.nextInt(4) > 0) numbers[3] = model.face(numbers[0], numbers[1], numbers[2]);
            if (!alike(parts[0], numbers)) return false;
        }
        return true;
    }

    private boolean plants() throws ReflectiveOperationException {
        String text = text();
        int lane = random.nextInt(3);
        int from = random.nextInt(5);
        boolean so = alike("sheet", 0, lane, from + text.length() + random.nextInt(3));
        for (int i = 0; i < text.length(); i++) so = so && alike("put", 0, from + i, text.charAt(i));
        return so && alike("gardens", 0, lane, from, text.length());
    }

    /** Heights and wants about the edges of goats and light, so that a word makes a difference. */
    private String text() {
        StringBuilder s = new StringBuilder("g");
        int gardens = 2 + random.nextInt(6);
        boolean edges = random.nextBoolean();
        for (int g = 0; g < gardens; g++) {
            s.append(edges ? 6 + random.nextInt(4) : random.nextInt(10));
            if (g == gardens - 1) break;
            s.append("hyb".charAt(random.nextInt(3)));
            s.append(edges ? (random.nextBoolean() ? 2 + random.nextInt(2) : 5 + random.nextInt(3)) : random.nextInt(10));
        }
        int spoilt = random.nextInt(12);
        if (spoilt == 0) s.setLength(random.nextInt(s.length()));
        if (spoilt == 1) s.setCharAt(random.nextInt(s.length()), "ghyb0159:/x".charAt(random.nextInt(11)));
        if (spoilt == 2) s.append("h12b34y5");
        return s.toString();
    }

    private int number(String what) {
        if (random.nextInt(40) == 0) return WILD[random.nextInt(WILD.length)];
        boolean edge = random.nextInt(12) == 0;
        switch (what) {
            case "g": return within(0, 6, edge);
            case "h": return within(0, 5, edge);
            case "all": case "ofAll": return random.nextInt(3) == 0 ? -1 : within(0, 5, edge);
            case "side": case "two": return within(0, 1, edge);
            case "day": return random.nextBoolean() ? within(0, 29, edge) : random.nextInt(5);
            case "dawn": return random.nextBoolean() ? within(0, 30, edge) : random.nextInt(6);
            case "word": return random.nextBoolean() ? within(-3, 3, edge) : within(-1, 1, false);
            case "clip": return random.nextInt(3) == 0 ? -9 : within(0, 20, edge);
            case "feet": return within(0, 20, edge);
            case "few": return random.nextInt(4);
            case "inches": return within(0, 240, edge);
            case "back": return random.nextInt(3);
            case "sheet": return within(0, 3, edge);
            case "lane": return within(0, 2, edge);
            case "cell": return within(0, 10, edge);
            case "n": return within(0, 14, edge);
            case "code": return "ghyb0123456789".charAt(random.nextInt(14));
            default: return random.nextInt();
        }
    }

    private int within(int least, int most, boolean edge) {
        if (edge) return random.nextBoolean() ? least - 1 : most + 1;
        return least + random.nextInt(most - least + 1);
    }

    private boolean alike(String name, int... numbers) throws ReflectiveOperationException {
        Integer[] boxed = Arrays.stream(numbers).boxed().toArray(Integer[]::new);
        told.add(name + Arrays.toString(numbers));
        String due = answer(PlainModel.class, model, name, boxed);
        String got = answer(WordHedges.class, real, name, boxed);
        if (due.equals(got)) return true;
        System.out.println(String.join("; ", told));
        System.out.println("answered " + got + ", the model " + due);
        return false;
    }

    private static String answer(Class<?> of, Object on, String name, Integer[] numbers) throws ReflectiveOperationException {
        Class<?>[] ints = new Class<?>[numbers.length];
        Arrays.fill(ints, int.class);
        Method method = of.getDeclaredMethod(name, ints);
        try {
            return String.valueOf(method.invoke(on, (Object[]) numbers));
        } catch (InvocationTargetException e) {
            return "thrown: " + e.getCause();
        }
    }
}
