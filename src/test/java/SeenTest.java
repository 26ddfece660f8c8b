/** Promises 21 to 26: what is seen, who nodded then, the book. */
public final class SeenTest {
    private static final int NONE = SleeplessVillage.NONE, UNKNOWN = SleeplessVillage.UNKNOWN,
        OUTSIDE = SleeplessVillage.OUTSIDE, FULL = SleeplessVillage.FULL;
    private static final String THREE = Busy.THREE;
    private static final Due due = new Due("SeenTest");

    public static void main(String[] args) {
        promise21See();
        promise22Order();
        promise22Fitting();
        promise22Refusals();
        promise23AskNext();
        promise24Write();
        promise25Tear();
        promise26Judge();
        due.close();
    }

    private static void promise21See() {
        due.is("see(0, true) without a contract", UNKNOWN, new SleeplessVillage().see(0, true));
        SleeplessVillage x = Due.village(THREE);
        due.is("see(5, true)", UNKNOWN, x.see(5, true));
        due.is("see(-1, true)", UNKNOWN, x.see(-1, true));
        for (int i = 1; i <= 8; i++) due.is("see() no. " + i, i, x.see(i % 5, i % 2 == 0));
        due.is("see() no. 9", FULL, x.see(0, true));
        due.is("see(5, true), full", UNKNOWN, x.see(5, true));
        due.is("told(14)", 8, x.told(14));
        due.is("undone is nothing of it", 0, x.told(16));
    }

    private static void promise22Order() {
        SleeplessVillage x = Due.village(THREE);
        due.nodded("fewest first, then rising", x, 7, 0, 1, 2, 4, 3, 5, 6, 7);
        due.nodded("out of the set alone", x, 5, 0, 1, 4, 5);
        due.nodded("of nobody", x, 0, 0);
        due.is("SURE of all", 0, x.nodded(7, -2));
        due.is("nodded(7, -3)", NONE, x.nodded(7, -3));
        due.is("nodded(7, -2147483648)", NONE, x.nodded(7, Integer.MIN_VALUE));
        due.is("nodded(7, 2147483647)", NONE, x.nodded(7, Integer.MAX_VALUE));
        x = Due.village("k1 0 0 0;" + "p1 1 1 1;".repeat(6));
        due.is("how many of six", 64, x.nodded(63, -1));
        due.is("the 7th of six", 3, x.nodded(63, 7));
        due.is("the 62nd of six", 62, x.nodded(63, 62));
        due.is("the 63rd of six", 63, x.nodded(63, 63));
    }

    private static void promise22Fitting() {
        SleeplessVillage x = Due.village(THREE);
        x.see(1, true);
        due.nodded("if one of two guards sat up", x, 7, 3, 7);
        due.is("SURE", 3, x.nodded(7, -2));
        due.nodded("with one guard alone on watch", x, 5, 1, 5);
        due.nodded("without a guard on watch", x, 4, 4);
        x.see(2, false);
        due.nodded("and another slept on", x, 7, 3);
        due.nodded("so that nothing fits", x, 4);
        due.is("SURE without any", 0, x.nodded(4, -2));
        due.nodded("with the hour watched by another", x, 6, 2);
        x.tear();
        x.see(4, true);
        due.nodded("without guards at all he sits up only if it is not watched", x, 7, 7);
        due.nodded("nobody watches", x, 0, 0);
        due.is("SURE", 7, x.nodded(7, -2));
        x.see(4, false);
        due.nodded("of what can't be", x, 7);
        due.nodded("of what can't be", x, 0);
        x.tear();
        x.see(0, false);
        due.nodded("where the only one did not", x, 1, 0);
        due.is("SURE of nobody", 0, x.nodded(1, -2));
        x.tear();
        x.see(4, false);
        due.nodded("where the hour is watched", x, 3, 0, 1, 2);
        due.nodded("where it can't be", x, 0);
    }

    private static void promise22Refusals() {
        SleeplessVillage x = new SleeplessVillage();
        due.is("nodded(0, -1) without a contract", 1, x.nodded(0, -1));
        due.is("nodded(0, 0) without a contract", 0, x.nodded(0, 0));
        due.is("nodded(0, -2) without a contract", 0, x.nodded(0, -2));
        due.is("nodded(1, -1) without a contract", UNKNOWN, x.nodded(1, -1));
        x = Due.village(THREE);
        due.is("nodded(8, -1)", UNKNOWN, x.nodded(8, -1));
        due.is("nodded(-1, -9)", UNKNOWN, x.nodded(-1, -9));
        due.is("askNext(8)", UNKNOWN, x.askNext(8));
        due.is("askNext(-8)", UNKNOWN, x.askNext(-8));
        due.is("askNext(1) without a contract", UNKNOWN, new SleeplessVillage().askNext(1));
    }

    private static void promise23AskNext() {
        due.is("askNext(0) without a contract", NONE, new SleeplessVillage().askNext(0));
        due.is("askNext(1) without sleepers", NONE, Due.village("k1 0 0 0;p1 1 1 1;").askNext(1));
        SleeplessVillage x = Due.village(THREE);
        due.is("askNext(7)", 0, x.askNext(7));
        due.is("askNext(0)", NONE, x.askNext(0));
        // of watcher 2 alone every sleeper tells the same: of like ones the least
        due.is("askNext(4)", 0, x.askNext(4));
        // of 1 and 2: s1 sits up if both nod, s3 if 1 nods: 2 and 2
        due.is("askNext(6)", 1, x.askNext(6));
        x.see(0, true);
        due.is("askNext(7) behind see(0, true)", 1, x.askNext(7));
        x.see(1, true);
        due.is("askNext(7) behind see(1, true)", 2, x.askNext(7));
        x.see(2, true);
        due.is("askNext(7) where one fits", NONE, x.askNext(7));
        x.see(2, false);
        due.is("askNext(7) where none fits", NONE, x.askNext(7));
        x = Due.village("k1 0 0 0;p1 1 1 1;p1 1 1 1;p1 1 1 1;s7;s3;s1;s2;");
        // of 8: s7 parts 1 and 7, s3 2 and 6, s1 and s2 4 and 4
        due.is("askNext(7), the best is not the first", 2, x.askNext(7));
        x = Due.village("k1 0 0 0;p1 1 1 1;p1 1 1 1;s1;");
        x.see(0, true);
        due.is("askNext(3) where two fit and nobody parts them", NONE, x.askNext(3));
    }

    private static void promise24Write() {
        due.is("write(0, 0) without a contract", UNKNOWN, new SleeplessVillage().write(0, 0));
        SleeplessVillage x = Due.village(THREE);
        due.is("write(3, 200)", UNKNOWN, x.write(3, 200));
        due.is("write(-1, 0)", UNKNOWN, x.write(-1, 0));
        due.is("write(0, 200)", OUTSIDE, x.write(0, 200));
        due.is("write(0, -1)", OUTSIDE, x.write(0, -1));
        due.is("write(0, 0)", 1, x.write(0, 0));
        due.is("write(2, 199)", 2, x.write(2, 199));
        for (int i = 3; i <= 15; i++) due.is("write() no. " + i, i, x.write(1, i));
        due.is("write() no. 16", FULL, x.write(1, 1));
        due.is("write(0, 200), full", OUTSIDE, x.write(0, 200));
        due.is("told(15)", 15, x.told(15));
        due.is("undone is nothing of it", 0, x.told(16));
    }

    private static void promise25Tear() {
        due.is("tear() of nothing", 0, new SleeplessVillage().tear());
        SleeplessVillage x = Due.village(THREE);
        x.see(0, true);
        x.see(1, true);
        x.write(0, 99);
        due.is("tear()", 3, x.tear());
        due.are("told(14), told(15)", Due.row(0, 0), x.told(14), x.told(15));
        due.is("nothing seen", 8, x.nodded(7, -1));
        due.is("nothing written", NONE, x.judge());
        due.is("tear() again", 0, x.tear());
        due.is("see() anew", 1, x.see(2, true));
        due.is("write() anew", 1, x.write(2, 3));
    }

    private static void promise26Judge() {
        due.is("judge() without a contract", NONE, new SleeplessVillage().judge());
        SleeplessVillage x = Due.village(THREE);
        due.is("judge() of no book", NONE, x.judge());
        x.write(2, 40);
        x.write(2, 40);
        x.write(0, 10);
        due.is("judge(), all is so", NONE, x.judge());
        x.write(1, 7);
        x.write(0, 3);
        due.is("judge(): the first entry that is otherwise", 3, x.judge());
        x.tear();
        x.write(0, 11);
        due.is("judge() of the first watcher", 0, x.judge());
        x.tear();
        for (int i = 0; i < 14; i++) x.write(2, 40);
        x.write(1, 1);
        due.is("judge() of the last entry", 14, x.judge());
        x.tear();
        x.write(2, 40);
        x.write(0, 10);
        x.write(1, 0);
        x.write(2, 41);
        x.hour(2, false);
        due.is("judge() now", 0, x.judge());
        x.undo();
        due.is("judge() again", 3, x.judge());
    }
}
