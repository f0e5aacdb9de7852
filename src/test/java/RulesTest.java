import java.io.IOException;
import java.lang.reflect.Constructor;
import java.lang.reflect.Field;
import java.lang.reflect.Method;
import java.lang.reflect.Modifier;
import java.nio.file.Files;
import java.nio.file.Path;
import java.util.Set;
import java.util.TreeSet;
import java.util.regex.Matcher;
import java.util.regex.Pattern;

/** The face as the document has it and no more, and those rules of LANGUAGE.md that can be read off the class and its source. */
public final class RulesTest {
    private static final String[] FACE = {
        "int gardens 4", "int wants 1", "int ofHedge 2", "int say 4", "int clip 3", "int face 3", "int height 3", "int light 2",
        "int goats 1", "int off 2", "int scold 4", "int reading 4", "int back 1", "int said 3", "int quarrel 4", "int peace 1",
        "int round 2", "int fines 2", "long mean 2", "int sheet 3", "int lose 1", "int put 3", "long cell 3", "int copy 5",
        "int tell 1", "int lean 1", "int as 2", "int trace 0", "int fault 0", "int many 1"};
    private static final String FORBIDDEN = "\\b(throw|try|catch|throws|synchronized|assert|volatile|double|float|protected)\\b"
        + "|->|::|Exact\\(|\\.hashCode|\\.toString|System\\.(?!arraycopy)|Objects|import (?!java\\.util\\.Arrays;)";
    /** Of LANGUAGE.md's list what the class needs: another one is added here once it has been looked up there. */
    private static final String LIBRARY = "Math\\.(abs|max|min)|Arrays\\.fill|System\\.arraycopy";

    public static void main(String[] args) throws IOException {
        face();
        constants();
        insideClasses();
        if (args.length > 0) source(Files.readString(Path.of(args[0])));
        Due.end();
    }

    private static void face() {
        Set<String> due = new TreeSet<>(Set.of(FACE));
        Set<String> names = new TreeSet<>();
        Set<String> found = new TreeSet<>();
        for (Method m : WordHedges.class.getDeclaredMethods()) {
            if (!Modifier.isPublic(m.getModifiers())) continue;
            found.add(m.getReturnType() + " " + m.getName() + " " + m.getParameterCount());
            names.add(m.getName());
            for (Class<?> type : m.getParameterTypes()) Due.holds(m + " takes ints", type == int.class);
        }
        Due.holds("the methods are " + due + ", not " + found, due.equals(found));
        Constructor<?>[] made = WordHedges.class.getDeclaredConstructors();
        Due.holds("one public constructor", made.length == 1 && Modifier.isPublic(made[0].getModifiers()) && made[0].getParameterCount() == 0);
        for (Method m : WordHedges.class.getDeclaredMethods()) {
            if (Modifier.isPublic(m.getModifiers())) continue;
            Due.holds(m + " is private", Modifier.isPrivate(m.getModifiers()));
            Due.holds(m + " has a name of its own", !names.contains(m.getName()));
        }
        Due.holds("the class is public and final", Modifier.isFinal(WordHedges.class.getModifiers()) && Modifier.isPublic(WordHedges.class.getModifiers()));
    }

    private static void constants() {
        Set<String> due = Set.of("UNKNOWN", "OUTSIDE", "STATE", "FULL", "NONE", "LOST");
        Set<String> found = new TreeSet<>();
        for (Field f : WordHedges.class.getDeclaredFields()) {
            if (Modifier.isPublic(f.getModifiers())) found.add(f.getName());
            else Due.holds(f + " is private", Modifier.isPrivate(f.getModifiers()));
            if (Modifier.isStatic(f.getModifiers())) Due.holds(f + " is final", Modifier.isFinal(f.getModifiers()));
        }
        Due.holds("the constants are " + due, due.equals(found));
        Due.is("UNKNOWN", WordHedges.UNKNOWN, -1);
        Due.is("OUTSIDE", WordHedges.OUTSIDE, -2);
        Due.is("STATE", WordHedges.STATE, -3);
        Due.is("FULL", WordHedges.FULL, -4);
        Due.is("NONE", WordHedges.NONE, -9);
        Due.is("LOST", WordHedges.LOST, Long.MIN_VALUE);
    }

    private static void insideClasses() {
        Class<?>[] inside = WordHedges.class.getDeclaredClasses();
        Due.holds("at most twelve classes", inside.length < 12);
        for (Class<?> c : inside) {
            Due.holds(c + " is static", Modifier.isStatic(c.getModifiers()));
            Due.holds(c + " has at most twenty fields", c.getDeclaredFields().length <= 20);
            for (Method m : c.getDeclaredMethods()) Due.holds(m + " takes at most seven", m.getParameterCount() <= 7);
            for (Field f : c.getDeclaredFields()) {
                if (Modifier.isStatic(f.getModifiers())) Due.holds(f + " is final", Modifier.isFinal(f.getModifiers()));
            }
        }
    }

    private static void source(String text) {
        String bare = text.replaceAll("(?s)/\\*.*?\\*/", "").replaceAll("//[^\n]*", "");
        Matcher forbidden = Pattern.compile(FORBIDDEN).matcher(bare);
        while (forbidden.find()) Due.holds("'" + forbidden.group() + "' does not stand in the source", false);
        Matcher library = Pattern.compile("\\b(?!Text\\.)[A-Z][A-Za-z]*\\.[a-z][A-Za-z]*").matcher(bare);
        while (library.find()) Due.holds(library.group() + " is of the library that is allowed", library.group().matches(LIBRARY));
        Due.holds("the source is of plain signs", text.chars().allMatch(c -> c == '\n' || c >= 32 && c < 127));
        methodsAreShort(text.split("\n"));
    }

    /** A method's closing brace stands as far in as its first line. */
    private static void methodsAreShort(String[] lines) {
        for (int first = 0; first < lines.length; first++) {
            if (!lines[first].matches(" +[A-Za-z].*\\) \\{")) continue;
            String close = lines[first].replaceAll("[^ ].*", "") + "}";
            int last = first;
            while (last < lines.length && !lines[last].startsWith(close)) last++;
            Due.holds("the block of line " + (first + 1) + " has at most sixty lines", last - first < 60);
        }
    }
}
