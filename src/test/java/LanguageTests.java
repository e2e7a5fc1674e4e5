import java.io.IOException;
import java.lang.management.ManagementFactory;
import java.lang.reflect.Field;
import java.lang.reflect.InvocationTargetException;
import java.lang.reflect.Method;
import java.lang.reflect.Modifier;
import java.nio.file.Files;
import java.nio.file.Path;
import java.util.ArrayList;
import java.util.Arrays;
import java.util.List;
import java.util.Random;
import java.util.TreeSet;
import java.util.regex.Matcher;
import java.util.regex.Pattern;

/** What LANGUAGE.md rules and a test can see: the face, words that must not stand there, no throwing, no waste of room. */
public final class LanguageTests {
    private static final Check check = new Check();
    private static final int[] EDGES = {Integer.MIN_VALUE, Integer.MIN_VALUE + 1, -1001, -2, -1, 0, 1, 2, 3, 4, 5, 6, 7, 8, 9, 10,
        11, 13, 14, 21, 39, 40, 41, 59, 60, 61, 99, 100, 159, 160, 255, 256, 9999, 10000, 99999, 100000, 65536,
        Integer.MAX_VALUE - 1, Integer.MAX_VALUE};

    public static void main(String[] args) throws Exception {
        face();
        nothingElseIsSeen();
        words(Path.of(args[0]));
        neverThrows();
        makesNothing();
        check.end();
    }

    private static void so(String what, boolean so) {
        check.due(what, so ? 1 : 0, 1);
    }

    /** The methods of the document's public face, as they stand in it. */
    private static void face() throws IOException {
        String doc = Files.readString(Path.of("../shared/DOC.md"));
        String face = doc.substring(doc.indexOf("```java"), doc.indexOf("## Terms"));
        TreeSet<String> due = new TreeSet<>();
        Matcher method = Pattern.compile("public (int|long) (\\w+)\\(([^)]*)\\);").matcher(face);
        while (method.find()) {
            due.add(method.group(1) + " " + method.group(2) + " " + (method.group(3).isEmpty() ? 0 : method.group(3).split(",").length));
        }
        TreeSet<String> got = new TreeSet<>();
        for (Method m : EveryoneWins.class.getDeclaredMethods()) {
            if (Modifier.isPublic(m.getModifiers())) {
                so(m.getName() + " takes ints", Arrays.stream(m.getParameterTypes()).allMatch(t -> t == int.class));
                got.add(m.getReturnType() + " " + m.getName() + " " + m.getParameterCount());
            }
        }
        check.due("methods in the document", due.size(), 34);
        so("face: " + got, got.equals(due));
        so("constructors", EveryoneWins.class.getConstructors().length == 1 && EveryoneWins.class.getDeclaredConstructors().length == 1);
        check.dueAll("constants", new long[] {EveryoneWins.NONE, EveryoneWins.BAD, EveryoneWins.STATE, EveryoneWins.FULL, EveryoneWins.NO},
            -1, -2, -3, -4, -4611686018427387904L);
        check.due("public fields", EveryoneWins.class.getFields().length, 5);
        so("final", Modifier.isFinal(EveryoneWins.class.getModifiers()));
    }

    private static void nothingElseIsSeen() {
        List<String> names = new ArrayList<>();
        for (Method m : EveryoneWins.class.getDeclaredMethods()) {
            so(m.getName() + " is public or private", (m.getModifiers() & (Modifier.PUBLIC | Modifier.PRIVATE)) != 0);
            if (Modifier.isPublic(m.getModifiers())) {
                names.add(m.getName());
            }
        }
        for (Field f : EveryoneWins.class.getDeclaredFields()) {
            so(f.getName() + " is public or private", (f.getModifiers() & (Modifier.PUBLIC | Modifier.PRIVATE)) != 0);
            so(f.getName() + ", if static, is final", !Modifier.isStatic(f.getModifiers()) || Modifier.isFinal(f.getModifiers()));
        }
        so("some twelve classes", EveryoneWins.class.getDeclaredClasses().length <= 12);
        for (Class<?> inside : EveryoneWins.class.getDeclaredClasses()) {
            so(inside + " is static", Modifier.isStatic(inside.getModifiers()));
            so(inside + " isn't public", (inside.getModifiers() & (Modifier.PUBLIC | Modifier.PROTECTED)) == 0);
            for (Method m : inside.getDeclaredMethods()) {
                so(m.getName() + " is no public method's name", !names.contains(m.getName()));
            }
        }
    }

    private static void words(Path source) throws IOException {
        String code = Files.readString(source).replaceAll("(?s)/\\*.*?\\*/", " ").replaceAll("//[^\n]*", " ");
        String[] never = {"throw", "throws", "try", "catch", "finally", "synchronized", "assert", "import", "package", "record", "yield",
            "protected", "volatile", "transient", "native", "strictfp", "var", "Object", "System\\.out", "System\\.nano\\w*",
            "System\\.current\\w*", "\\w+Exact", "equals", "hashCode", "toString"};
        for (String word : never) {
            so("no " + word, !Pattern.compile("\\b" + word + "\\b").matcher(code).find());
        }
        so("no ->", !code.contains("->"));
        so("no ::", !code.contains("::"));
        so("no @", !code.contains("@"));
        so("signs 1 to 127", code.chars().allMatch(c -> c < 128));
    }

    private static List<Method> calls() {
        List<Method> calls = new ArrayList<>();
        for (Method m : EveryoneWins.class.getDeclaredMethods()) {
            if (Modifier.isPublic(m.getModifiers())) {
                calls.add(m);
            }
        }
        calls.sort((a, b) -> a.getName().compareTo(b.getName()));
        return calls;
    }

    /** Runs of 512 calls with edges for arguments, also on objects that are full. */
    private static void neverThrows() throws IllegalAccessException {
        List<Method> calls = calls();
        for (int run = 0; run < 300; run++) {
            Random random = new Random(run);
            EveryoneWins x = run % 2 == 0 ? new EveryoneWins() : fullDay();
            for (int i = 0; i < 512; i++) {
                Method m = calls.get(random.nextInt(calls.size()));
                Object[] arguments = new Object[m.getParameterCount()];
                for (int k = 0; k < arguments.length; k++) {
                    arguments[k] = random.nextInt(3) == 0 ? EDGES[random.nextInt(EDGES.length)] : random.nextInt(9);
                }
                try {
                    m.invoke(x, arguments);
                } catch (InvocationTargetException e) {
                    so(m.getName() + Arrays.toString(arguments) + " threw " + e.getCause(), false);
                    return;
                }
            }
        }
        so("nothing was thrown", true);
    }

    private static EveryoneWins fullDay() {
        EveryoneWins x = Given.children(4020, 5010, 330, 9999, 4020, 0, 7777, 1234);
        for (int kind = 0; kind < 6; kind++) {
            x.race(10 * kind + 5, 255 >> kind);
            x.enter(kind, 1, kind % 4);
        }
        for (int t = 1; t < 6; t++) {
            Given.law(x, "yards speed*luck - won*17 + (not (race < more) or runners = 3);"
                + "worth ((((1+2)*3-won)*race) and (speed<50))*20 - more; none -----5;");
        }
        x.film(0);
        x.film(1);
        return x;
    }

    /** Rule 12: rows are made with the object and used again; a call makes nothing. */
    private static void makesNothing() {
        com.sun.management.ThreadMXBean threads = (com.sun.management.ThreadMXBean) ManagementFactory.getThreadMXBean();
        EveryoneWins x = fullDay();
        long sum = allDearCalls(x);
        long before = threads.getCurrentThreadAllocatedBytes();
        for (int i = 0; i < 10; i++) {
            sum += allDearCalls(x);
        }
        long made = threads.getCurrentThreadAllocatedBytes() - before;
        so("ten rounds of dear calls made " + made + " bytes (" + sum + ")", made < 1000);
    }

    private static long allDearCalls(EveryoneWins x) {
        long sum = x.let(0) + x.spare(0) + x.drop(0) + x.order(0) + x.tie(0) + x.needs(1, 2) + x.judge(0);
        sum += x.kinds(0, 0, 0) + x.quick(0, 0, 0) + x.laws(0) + x.film(0) + x.drawn(1, 1) + x.odds(1, 60, 3, 0);
        sum += x.image() + x.back() + x.sheet(2, 2, 40) + x.cell(2, 0, 5) + x.copy(2, 0, 2, 1, 39) + x.childrenBy(2, 2, 0, 8);
        sum += x.feed(5, 'y', 'a', 'r', 'd', 's') + x.text() + x.taken(0, 0) + x.comes(0, 0) + x.does(0, 0) + x.day(0);
        return sum;
    }
}
