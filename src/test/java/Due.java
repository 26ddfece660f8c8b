/** Compares answers with those that are due and counts them; a test's main ends with close(). */
final class Due {
    private final String title;
    private int right = 0;
    private int wrong = 0;

    Due(String title) {
        this.title = title;
    }

    void is(String call, long want, long got) {
        if (got == want) {
            right++;
            return;
        }
        wrong++;
        System.out.println(title + ": " + call + " answered " + got + ", due is " + want);
    }

    /** The whole row of answers at once, each told by its place in the row. */
    void are(String calls, int[] want, int... got) {
        is(calls + " (how many)", want.length, got.length);
        for (int i = 0; i < want.length && i < got.length; i++) is(calls + " [" + i + "]", want[i], got[i]);
    }

    void close() {
        System.out.println(title + ": " + right + " answers as due, " + wrong + " not");
        if (wrong != 0 || right == 0) System.exit(1);
    }

    static void feed(SleeplessVillage x, String text) {
        for (int i = 0; i < text.length(); i++) x.feed(text.charAt(i));
    }

    /** A new object with a contract that has no fault. */
    static SleeplessVillage village(String text) {
        SleeplessVillage x = new SleeplessVillage();
        feed(x, text);
        if (x.contract() < 0) throw new IllegalArgumentException("the test's own text has a fault: " + text);
        return x;
    }

    static int[] row(int... answers) {
        return answers;
    }
}
