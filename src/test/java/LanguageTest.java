import com.sun.management.ThreadMXBean;
import java.lang.management.ManagementFactory;
import java.lang.reflect.Constructor;
import java.lang.reflect.Field;
import java.lang.reflect.Method;
import java.lang.reflect.Modifier;
import java.nio.file.Files;
import java.nio.file.Path;
import java.util.ArrayList;
import java.util.Arrays;
import java.util.List;
import java.util.Set;
import java.util.TreeSet;
import java.util.regex.Matcher;
import java.util.regex.Pattern;

/** Rules of LANGUAGE.md that can be seen from outside, and that calls make no objects. */
public final class LanguageTest {
    private static final Set<String> FACE = new TreeSet<>(Arrays.asList(
        "write(1)", "wipe(0)", "fault(0)", "lay(0)", "plot(2)", "hour(2)", "fits(2)", "pass(1)", "put(2)", "up(1)",
        "dig(1)", "undo(0)", "out(1)", "behind(2)", "above(1)", "packs(1)", "stir(1)", "cheap(2)", "deeper(1)",
        "years(1)", "seen(3)", "forget(0)", "plots(1)", "kinds(1)", "likely(4)", "decade(3)", "keep(0)", "back(0)",
        "count(1)"));
    /** What the class uses of the library that rule 4 leaves. */
    private static final Set<String> LIBRARY = Set.of("String", "Integer.bitCount(", "Math.max(");
    private static int wrong;

    public static void main(String[] args) throws Exception {
        face();
        innerClasses();
        words();
        noObjectsByCalls();
        System.out.println(wrong == 0 ? "all rules hold" : wrong + " rules do not hold");
        if (wrong != 0) {
            System.exit(1);
        }
    }

    private static void hold(String rule, boolean so) {
        if (!so) {
            wrong++;
            System.out.println("does not hold: " + rule);
        }
    }

    private static void face() {
        Set<String> found = new TreeSet<>();
        for (Method m : HourGreen.class.getDeclaredMethods()) {
            if (!Modifier.isPrivate(m.getModifiers()) && !m.isSynthetic()) {
                found.add(m.getName() + "(" + m.getParameterCount() + ")");
                hold("1: " + m.getName() + " answers an int", m.getReturnType() == int.class);
            }
        }
        hold("1: the face " + found, found.equals(FACE));
        Set<String> fields = new TreeSet<>();
        for (Field f : HourGreen.class.getDeclaredFields()) {
            if (!Modifier.isPrivate(f.getModifiers()) && !f.isSynthetic()) {
                fields.add(f.getName());
            }
            boolean isStatic = Modifier.isStatic(f.getModifiers());
            hold("5: static fields are final", !isStatic || Modifier.isFinal(f.getModifiers()));
        }
        hold("1: the constants " + fields, fields.equals(new TreeSet<>(Arrays.asList("BAD", "NO", "FULL", "NONE"))));
        Constructor<?>[] makers = HourGreen.class.getDeclaredConstructors();
        hold("1: one public constructor", makers.length == 1 && Modifier.isPublic(makers[0].getModifiers()));
        hold("1: final", Modifier.isFinal(HourGreen.class.getModifiers()));
    }

    private static void innerClasses() {
        Class<?>[] inner = HourGreen.class.getDeclaredClasses();
        hold("11: at most twelve classes", inner.length < 12);
        for (Class<?> c : inner) {
            hold("1: static " + c.getName(), Modifier.isStatic(c.getModifiers()));
            hold("1: not public " + c.getName(), !Modifier.isPublic(c.getModifiers()));
            hold("11: fields of " + c.getName(), c.getDeclaredFields().length <= 20);
            for (Method m : c.getDeclaredMethods()) {
                hold("11: parameters of " + m.getName(), m.getParameterCount() <= 7);
                boolean nameOfFace = FACE.stream().anyMatch(one -> one.startsWith(m.getName() + "("));
                hold("1: no name of the face for " + c.getName() + "." + m.getName(), !nameOfFace);
            }
        }
    }

    private static void words() throws Exception {
        String source = Files.readString(Path.of("src/main/java/HourGreen.java"));
        hold("3: signs 1 to 127", source.chars().allMatch(c -> c >= 1 && c <= 127));
        String code = source.replaceAll("(?s)/\\*.*?\\*/", "").replaceAll("//[^\n]*", "");
        String[] banned = {"throw", "try", "catch", "synchronized", "assert", "import", "package", "->", "::", "Exact",
            "System", "Random", "Thread", "protected", "equals", "hashCode", "toString", "double", "float"};
        for (String word : banned) {
            boolean there = word.matches("\\w+")
                ? Pattern.compile("\\b" + word + "\\b|Exact\\b").matcher(code).find()
                : code.contains(word);
            hold("no " + word + " in the class", !there);
        }
        Matcher used = Pattern.compile("\\b(String|StringBuilder|Integer|Long|Math|Arrays|Character|Boolean|List|ArrayList"
            + "|Object|Short|Byte)\\b(\\.\\w+\\(?)?").matcher(code);
        while (used.find()) {
            hold("4: " + used.group() + " in the library", LIBRARY.contains(used.group()));
        }
        hold("11: methods of sixty lines at most " + longMethods(code), longMethods(code).isEmpty());
    }

    private static List<String> longMethods(String code) {
        List<String> found = new ArrayList<>();
        Matcher m = Pattern.compile("(?m)^( {4}| {8})\\w[^=;\\n]*\\) \\{\\n((?:(?!\\1\\}).*\\n)*)\\1\\}").matcher(code);
        while (m.find()) {
            if (m.group(2).lines().count() > 58) {
                found.add(m.group().lines().findFirst().orElse(""));
            }
        }
        return found;
    }

    private static void noObjectsByCalls() {
        ThreadMXBean threads = (ThreadMXBean) ManagementFactory.getThreadMXBean();
        if (!threads.isThreadAllocatedMemorySupported()) {
            return;
        }
        HourGreen g = Due.laid("g1;g1;g1;g1;g1;w2,4;w2,5;w2,2;w0,1;w2,14;w1,16;w1,10;");
        everyCall(g);
        long before = threads.getCurrentThreadAllocatedBytes();
        for (int i = 0; i < 100; i++) {
            everyCall(g);
        }
        long made = threads.getCurrentThreadAllocatedBytes() - before;
        // The measuring makes a little itself; one object in each round would be 1,600 bytes at least.
        hold("12: calls make no objects, but " + made + " bytes were made", made < 1600);
    }

    private static void everyCall(HourGreen g) {
        g.write('x');
        g.fault();
        g.lay();
        g.wipe();
        g.plot(0, 1);
        g.hour(0, 4);
        g.fits(0, 0);
        g.pass(1);
        g.put(0, 1);
        g.up(0);
        g.dig(0);
        g.undo();
        g.out(0);
        g.behind(60, 0);
        g.above(0);
        g.packs(-1);
        g.stir(1);
        g.cheap(1, 0);
        g.deeper(0);
        g.years(20);
        g.seen(20, 0, 1);
        g.plots(0);
        g.kinds(0);
        g.forget();
        g.likely(0, 8, 5, 0);
        g.decade(9999, 60, 0);
        g.keep();
        g.back();
        g.count(4);
    }
}
