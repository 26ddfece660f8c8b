import java.util.function.Supplier;
import java.util.function.ToIntFunction;

/** Compares answers with those that are due and counts them; a test's main ends with close(). */
final class Due {
    private final String title;
    private String sentence = "";
    private int sentences = 0;
    private int right = 0;
    private int wrong = 0;

    Due(String title) {
        this.title = title;
    }

    /** The document's words that the answers from here on look at; a wrong answer is told with them. */
    void sentence(String words) {
        sentence = " (" + words + ")";
        sentences++;
    }

    void is(String call, long want, long got) {
        if (got == want) {
            right++;
            return;
        }
        wrong++;
        System.out.println(title + sentence + ": " + call + " answered " + got + ", due is " + want);
    }

    /** The whole row of answers at once, each told by its place in the row. */
    void are(String calls, int[] want, int... got) {
        is(calls + " (how many)", want.length, got.length);
        for (int i = 0; i < want.length && i < got.length; i++) is(calls + " [" + i + "]", want[i], got[i]);
    }

    /** An answer by which nothing may change: of two objects made alike, the one that is asked stays like the other. */
    void leaves(String call, int want, Supplier<SleeplessVillage> maker, ToIntFunction<SleeplessVillage> asked) {
        SleeplessVillage x = maker.get();
        is(call, want, asked.applyAsInt(x));
        are("all behind " + call, Whole.of(maker.get()), Whole.of(x));
    }

    /** What nodded() answers from 0 on, that nothing comes behind, and how many they are. */
    void nodded(String what, SleeplessVillage x, int set, int... want) {
        int[] got = new int[want.length];
        for (int i = 0; i < got.length; i++) got[i] = x.nodded(set, i);
        are("nodded(" + set + ", 0 ..) " + what, want, got);
        is("nodded(" + set + ", one more) " + what, SleeplessVillage.NONE, x.nodded(set, want.length));
        is("nodded(" + set + ", -1) " + what, want.length, x.nodded(set, SleeplessVillage.NONE));
    }

    /** What watches() answers from -1 on. */
    void watches(String what, SleeplessVillage x, int... want) {
        int[] got = new int[want.length];
        for (int i = 0; i < got.length; i++) got[i] = x.watches(i - 1);
        are("watches(-1 ..) " + what, want, got);
    }

    void close() {
        String looked = sentences == 0 ? "" : " to " + sentences + " sentences";
        System.out.println(title + ": " + right + " answers" + looked + " as due, " + wrong + " not");
        if (wrong != 0 || right == 0) System.exit(1);
    }

    static void feed(SleeplessVillage x, String text) {
        for (int i = 0; i < text.length(); i++) x.feed(text.charAt(i));
    }

    /** A new object with a contract that has no fault. */
    static SleeplessVillage village(String text) {
        SleeplessVillage x = new SleeplessVillage();
        feed(x, text);
        if (x.contract() < 0) throw new IllegalArgumentException("the test's own text has a fault: " + text);
        return x;
    }

    static int[] row(int... answers) {
        return answers;
    }
}
