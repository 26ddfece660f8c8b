import java.io.IOException;
import java.lang.management.ManagementFactory;
import java.lang.reflect.Constructor;
import java.lang.reflect.Field;
import java.lang.reflect.Method;
import java.lang.reflect.Modifier;
import java.nio.charset.StandardCharsets;
import java.nio.file.Files;
import java.nio.file.Path;
import java.util.List;
import java.util.Set;
import java.util.TreeSet;
import java.util.regex.Matcher;
import java.util.regex.Pattern;

/** The rules of LANGUAGE.md that can be looked at from outside, the document's face, and the room that calls take. */
public final class LanguageTest {
    private static final Path SOURCE = Path.of("src/main/java/SleeplessVillage.java");
    private static final Set<String> FACE = new TreeSet<>(List.of(
        "feed(int)", "contract()", "fault()", "told(int)", "watcher(int,int)", "sleeper(int)", "hour(int,boolean)", "coffee(int)",
        "rest(int)", "drift(int)", "undo()", "watches(int)", "bellHour(int)", "coffeeFor()", "nights(int)", "hold()", "share(int)",
        "paid(int)", "blink(int,int,int)", "see(int,boolean)", "nodded(int,int)", "askNext(int)", "write(int,int)", "tear()",
        "judge()", "seed(int)", "keep(int)", "goBack(int)"));
    private static final Due due = new Due("LanguageTest");

    public static void main(String[] args) throws IOException {
        face();
        constants();
        nestedClasses();
        words();
        sizes();
        room();
        due.close();
    }

    private static void holds(String what, boolean so) {
        due.is(what, 1, so ? 1 : 0);
    }

    private static void face() {
        Class<?> type = SleeplessVillage.class;
        holds("the class is public and final", Modifier.isPublic(type.getModifiers()) && Modifier.isFinal(type.getModifiers()));
        Set<String> open = new TreeSet<>();
        for (Method m : type.getDeclaredMethods()) {
            if (Modifier.isPrivate(m.getModifiers())) continue;
            StringBuilder name = new StringBuilder(m.getName()).append("(");
            for (Class<?> t : m.getParameterTypes()) name.append(name.charAt(name.length() - 1) == '(' ? "" : ",").append(t);
            open.add(name.append(")").toString());
            holds(m.getName() + " is public, not static, and answers an int",
                Modifier.isPublic(m.getModifiers()) && !Modifier.isStatic(m.getModifiers()) && m.getReturnType() == int.class);
        }
        holds("the public methods are the document's: " + open, open.equals(FACE));
        Constructor<?>[] made = type.getDeclaredConstructors();
        holds("one public constructor", made.length == 1 && Modifier.isPublic(made[0].getModifiers()) && made[0].getParameterCount() == 0);
    }

    private static void constants() {
        Set<String> open = new TreeSet<>();
        for (Field f : SleeplessVillage.class.getDeclaredFields()) {
            if (!Modifier.isPrivate(f.getModifiers())) open.add(f.getName());
            if (Modifier.isStatic(f.getModifiers())) holds("final: " + f.getName(), Modifier.isFinal(f.getModifiers()));
        }
        holds("the public constants are the document's: " + open, open.equals(Set.of("NONE", "UNKNOWN", "OUTSIDE", "NOT", "FULL")));
        due.are("constants", Due.row(-1, -1000000001, -1000000002, -1000000003, -1000000004), SleeplessVillage.NONE,
            SleeplessVillage.UNKNOWN, SleeplessVillage.OUTSIDE, SleeplessVillage.NOT, SleeplessVillage.FULL);
    }

    private static void nestedClasses() {
        Class<?>[] inside = SleeplessVillage.class.getDeclaredClasses();
        holds("at most twelve classes", inside.length + 1 <= 12);
        for (Class<?> type : inside) {
            holds(type + " is static and not public", Modifier.isStatic(type.getModifiers()) && !Modifier.isPublic(type.getModifiers()));
            holds(type + " has at most twenty fields", type.getDeclaredFields().length <= 20);
            for (Method m : type.getDeclaredMethods()) {
                holds(m + " has a name of its own", FACE.stream().noneMatch(f -> f.startsWith(m.getName() + "(")));
                holds(m + " takes at most seven", m.getParameterCount() <= 7);
            }
            for (Field f : type.getDeclaredFields()) holds(f + " is not static", !Modifier.isStatic(f.getModifiers()));
        }
    }

    private static void words() throws IOException {
        String source = Files.readString(SOURCE, StandardCharsets.ISO_8859_1);
        holds("signs 1 to 127 alone", source.chars().allMatch(c -> c > 0 && c < 128));
        String code = source.replaceAll("(?s)/\\*.*?\\*/", "").replaceAll("//[^\n]*", "");
        String refused = "\\b(throw|throws|try|catch|finally|synchronized|assert|import|package|volatile|native|Object|Exception|equals|hashCode|toString|Exact)\\b|->|::|\\.\\.\\.";
        Matcher m = Pattern.compile(refused).matcher(code);
        while (m.find()) holds("no '" + m.group() + "' in the code", false);
        Matcher library = Pattern.compile("\\b(System|Math|Integer|Long|Arrays|String|StringBuilder|Character|Double)\\.(\\w+)").matcher(code);
        Set<String> listed = Set.of("System.arraycopy", "Math.max", "Math.min", "Integer.bitCount");
        while (library.find()) holds(library.group() + " is listed", listed.contains(library.group()));
    }

    private static void sizes() throws IOException {
        List<String> lines = Files.readAllLines(SOURCE, StandardCharsets.ISO_8859_1);
        int start = -1;
        String closing = "";
        for (int i = 0; i < lines.size(); i++) {
            String line = lines.get(i);
            boolean opens = line.matches("( {4}| {8})(public |private |static )*\\w+(\\[\\])* ?\\w*\\(.*\\) \\{");
            if (start < 0 && opens) {
                start = i;
                closing = line.substring(0, line.length() - line.stripLeading().length()) + "}";
            } else if (start >= 0 && line.equals(closing)) {
                holds("the method of line " + (start + 1) + " has at most sixty lines", i - start + 1 <= 60);
                start = -1;
            }
        }
    }

    /** Calls make nothing, so that only constructors count in the room. */
    private static void room() {
        com.sun.management.ThreadMXBean threads = (com.sun.management.ThreadMXBean) ManagementFactory.getThreadMXBean();
        long self = Thread.currentThread().getId();
        SleeplessVillage x = new SleeplessVillage();
        allCalls(x);
        long before = threads.getThreadAllocatedBytes(self);
        for (int i = 0; i < 200; i++) allCalls(x);
        long calls = threads.getThreadAllocatedBytes(self) - before;
        holds("14000 calls took " + calls + " bytes", calls < 20000);
        before = threads.getThreadAllocatedBytes(self);
        for (int i = 0; i < 100; i++) x = new SleeplessVillage();
        long made = threads.getThreadAllocatedBytes(self) - before;
        holds("100 objects took " + made + " bytes", made < 100 * 8000);
        allCalls(x);
    }

    private static final String TEXT = "k2 9 9 9;p9 3 3 40;p8 2 2 30;s1;s3;";

    private static void allCalls(SleeplessVillage x) {
        for (int i = 0; i < TEXT.length(); i++) x.feed(TEXT.charAt(i));
        x.contract();
        x.fault();
        x.told(7);
        x.watcher(0, 0);
        x.sleeper(0);
        x.keep(0);
        x.hour(3, true);
        x.coffee(0);
        x.rest(3);
        x.drift(9);
        x.undo();
        x.watches(0);
        x.bellHour(0);
        x.coffeeFor();
        x.nights(0);
        x.hold();
        x.share(0);
        x.paid(0);
        x.blink(0, 9, 9);
        x.see(0, true);
        x.nodded(3, 0);
        x.askNext(3);
        x.write(0, 9);
        x.judge();
        x.tear();
        x.seed(9);
        x.goBack(0);
    }
}
