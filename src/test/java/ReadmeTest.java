import java.io.File;
import java.io.IOException;
import java.lang.reflect.Constructor;
import java.lang.reflect.Method;
import java.lang.reflect.Modifier;
import java.nio.file.Files;
import java.nio.file.Path;
import java.util.ArrayList;
import java.util.List;
import java.util.Set;
import java.util.TreeSet;
import java.util.regex.Matcher;
import java.util.regex.Pattern;

/** That what README.md says is so: its example, the calls and answers that it lists, the tests that it names. */
public final class ReadmeTest {
    private static final Pattern TEXT = Pattern.compile("String text = \"(.*)\";");
    private static final Pattern CALL = Pattern.compile("x\\.(\\w+)\\(([^)]*)\\); +// (-?\\d+|[A-Z]+)\\b.*");
    private static final Due due = new Due("ReadmeTest");

    private final List<String> lines = Files.readAllLines(Path.of("README.md"));

    private ReadmeTest() throws IOException {
    }

    public static void main(String[] args) throws IOException, ReflectiveOperationException {
        ReadmeTest test = new ReadmeTest();
        test.example();
        test.calls();
        test.answers();
        test.clauses();
        test.tests();
        test.commands();
        due.close();
    }

    private static void holds(String what, boolean so) {
        due.is(what, 1, so ? 1 : 0);
    }

    // ---- the example

    private void example() throws ReflectiveOperationException {
        List<String> block = block("java");
        holds("the example has calls", block.size() > 10);
        holds("the example makes an object first", block.get(0).equals("SleeplessVillage x = new SleeplessVillage();"));
        SleeplessVillage x = new SleeplessVillage();
        String text = "";
        for (String line : block.subList(1, block.size())) {
            Matcher told = TEXT.matcher(line);
            Matcher call = CALL.matcher(line);
            if (told.matches()) text = told.group(1);
            else if (line.startsWith("for (") && line.endsWith("x.feed(text.charAt(i));")) Due.feed(x, text);
            else if (call.matches()) due.is(line, number(call.group(3)), ask(x, call.group(1), call.group(2)));
            else holds("a line of the example that can be looked at: " + line, false);
        }
    }

    private List<String> block(String kind) {
        int start = lines.indexOf("```" + kind);
        List<String> behind = lines.subList(start + 1, lines.size());
        return start < 0 ? List.of() : behind.subList(0, behind.indexOf("```"));
    }

    private static int ask(SleeplessVillage x, String name, String list) throws ReflectiveOperationException {
        String[] words = list.isEmpty() ? new String[0] : list.split(", ");
        Object[] values = new Object[words.length];
        for (int i = 0; i < words.length; i++) {
            boolean choice = words[i].equals("true") || words[i].equals("false");
            values[i] = choice ? (Object) words[i].equals("true") : (Object) Integer.parseInt(words[i]);
        }
        for (Method m : SleeplessVillage.class.getMethods()) {
            if (m.getName().equals(name) && m.getParameterCount() == words.length) return (int) m.invoke(x, values);
        }
        throw new NoSuchMethodException(name);
    }

    private static int number(String word) throws ReflectiveOperationException {
        return Character.isLetter(word.charAt(0)) ? SleeplessVillage.class.getField(word).getInt(null) : Integer.parseInt(word);
    }

    // ---- the tables

    /** The first cells, without their quotes, of the rows of the table under a heading. */
    private List<String> column(String heading) {
        List<String> cells = new ArrayList<>();
        int start = lines.indexOf(heading);
        holds("a table " + heading, start >= 0);
        for (int i = start + 2; start >= 0 && i < lines.size() && lines.get(i).startsWith("| "); i++) {
            cells.add(lines.get(i).substring(2).split(" \\|")[0].replace("`", ""));
        }
        return cells;
    }

    private void calls() {
        Set<String> listed = new TreeSet<>();
        for (String call : column("| call | what it answers |")) {
            String list = call.substring(call.indexOf('(') + 1, call.indexOf(')'));
            int count = list.isEmpty() ? 0 : list.split(", ").length;
            listed.add(call.substring(0, call.indexOf('(')) + " of " + count);
        }
        Set<String> open = new TreeSet<>();
        for (Method m : SleeplessVillage.class.getDeclaredMethods()) {
            if (Modifier.isPublic(m.getModifiers())) open.add(m.getName() + " of " + m.getParameterCount());
        }
        holds("the calls that are listed are those of the class: " + listed, listed.equals(open));
        Constructor<?>[] made = SleeplessVillage.class.getConstructors();
        holds("an object is made without arguments", made.length == 1 && made[0].getParameterCount() == 0);
    }

    private void answers() throws ReflectiveOperationException {
        List<String> names = column("| answer | number | what it says |");
        due.is("answers that are listed", 5, names.size());
        for (String name : names) {
            int value = SleeplessVillage.class.getField(name).getInt(null);
            holds(name + " is listed as " + value, lines.stream().anyMatch(line -> line.startsWith("| `" + name + "` | " + value + " |")));
        }
    }

    /** The least and the greatest numbers that the page names are taken, one beside them is not. */
    private void clauses() {
        String[] ahead = {"", "k1 0 0 0;", "k1 0 0 0;" + "p0 0 0 0;".repeat(6)};
        Pattern bounds = Pattern.compile("\\((\\d+) \\.\\. (\\d+)\\)");
        List<String> heads = column("| clause | its numbers |");
        due.is("clauses that are listed", ahead.length, heads.size());
        int first = lines.indexOf("| clause | its numbers |") + 2;
        for (int kind = 0; kind < ahead.length && kind < heads.size(); kind++) {
            List<int[]> pairs = new ArrayList<>();
            Matcher m = bounds.matcher(lines.get(first + kind));
            while (m.find()) pairs.add(new int[] {Integer.parseInt(m.group(1)), Integer.parseInt(m.group(2))});
            due.is("numbers of " + heads.get(kind), heads.get(kind).split(" ").length - 2, pairs.size());
            for (int i = 0; i < pairs.size(); i++) clause(ahead[kind], heads.get(kind).charAt(0), pairs, i);
        }
    }

    private static void clause(String ahead, char word, List<int[]> pairs, int at) {
        int least = pairs.get(at)[0], most = pairs.get(at)[1];
        for (int value : Due.row(least - 1, least, most, most + 1)) {
            if (value < 0) continue;
            StringBuilder text = new StringBuilder(ahead).append(word);
            for (int i = 0; i < pairs.size(); i++) text.append(i == at ? value : pairs.get(i)[0]).append(" ");
            SleeplessVillage x = new SleeplessVillage();
            Due.feed(x, text.append(";").toString());
            boolean good = value >= least && value <= most;
            int answer = x.contract();
            holds("contract() of " + text + " answered " + answer, good ? answer >= 0 : answer == -12);
        }
    }

    // ---- the tests

    private void tests() {
        Set<String> found = new TreeSet<>();
        for (String name : new File("src/test/java").list()) if (name.endsWith("Test.java")) found.add(name.replace(".java", ""));
        Set<String> listed = new TreeSet<>(column("| test | what it looks at |"));
        holds("the tests that are listed " + listed + " are there " + found, listed.equals(found));
    }

    private void commands() {
        due.is("the command that runs all tests", 1, block("sh").equals(List.of(".ci/run")) ? 1 : 0);
        holds(".ci/run can be run", new File(".ci/run").canExecute());
    }
}
