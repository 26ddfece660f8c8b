/** Promises 21 to 26 at their bounds: what is seen, who nodded by it, whom to ask, the book; what is answered when there is none. */
public final class SeenEdgeTest {
    private static final int NONE = SleeplessVillage.NONE, SURE = -2, UNKNOWN = SleeplessVillage.UNKNOWN, OUTSIDE = SleeplessVillage.OUTSIDE,
        FULL = SleeplessVillage.FULL;
    private static final int LEAST = Integer.MIN_VALUE, MOST = Integer.MAX_VALUE;
    private static final String SIX = "k1 0 0 0;" + "p0 0 0 0;".repeat(6);
    private static final Due due = new Due("SeenEdgeTest");

    public static void main(String[] args) {
        seeBounds();
        seenAtMost();
        noddedIndex();
        noddedOrder();
        noddedNone();
        noddedSure();
        noddedWithoutContract();
        askNextNone();
        askNextOfLikeOnes();
        askNextBest();
        writeBounds();
        bookAtMost();
        tearCounts();
        judgeNone();
        judgeFirst();
        judgeNow();
        due.close();
    }

    private static void seeBounds() {
        due.sentence("Promise 21: SEEN: how much. UNKNOWN");
        for (int s : Due.row(-1, 5, 7, 8, 32, LEAST, MOST)) due.leaves("see(" + s + ", true)", UNKNOWN, Busy::village, x -> x.see(s, true));
        due.leaves("see(0, false), no contract", UNKNOWN, Busy::withoutContract, x -> x.see(0, false));
        due.is("see(0, true)", 3, Busy.village().see(0, true));
        due.is("see(4, false)", 3, Busy.village().see(4, false));
        due.is("see(0, true) without sleepers", UNKNOWN, Due.village(SIX).see(0, true));
        due.is("see(7, true) of eight", 1, Due.village(SIX + "s1;".repeat(8)).see(7, true));
        due.is("see(8, true) of eight", UNKNOWN, Due.village(SIX + "s1;".repeat(8)).see(8, true));
    }

    private static void seenAtMost() {
        due.sentence("Promise 21: FULL (8); SEEN (8 at most)");
        SleeplessVillage x = Due.village("k1 0 0 0;p0 0 0 0;p0 0 0 0;s1;s2;");
        for (int i = 1; i <= 7; i++) due.is("see(0, true) no. " + i, i, x.see(0, true));
        due.nodded("by seven", x, 3, 1, 3);
        due.is("see(1, false) no. 8", 8, x.see(1, false));
        due.nodded("by the eighth, too", x, 3, 1);
        due.is("see(1, true) no. 9", FULL, x.see(1, true));
        due.nodded("not by a ninth", x, 3, 1);
        due.is("told(14)", 8, x.told(14));
        due.leaves("see(0, true), 8 seen", FULL, Busy::withAllSeen, y -> y.see(0, true));
        due.leaves("see(2, false), 8 seen", FULL, Busy::withAllSeen, y -> y.see(2, false));
        due.is("tear()", 8, x.tear());
        due.is("see(1, true) anew", 1, x.see(1, true));
        due.nodded("by the new one alone", x, 3, 2, 3);
    }

    private static void noddedIndex() {
        due.sentence("Promise 22: i = NONE how many, -2 SURE, else the i-th; NONE (i below these, too)");
        SleeplessVillage x = Due.village(SIX);
        for (int count = 0; count <= 6; count++) {
            int all = (1 << count) - 1;
            due.is("nodded(" + all + ", -1)", 1 << count, x.nodded(all, NONE));
            due.is("nodded(" + all + ", 0)", 0, x.nodded(all, 0));
            due.is("nodded(" + all + ", the last)", all, x.nodded(all, (1 << count) - 1));
            due.is("nodded(" + all + ", one more)", NONE, x.nodded(all, 1 << count));
            due.is("nodded(" + all + ", -2)", 0, x.nodded(all, SURE));
            for (int i : Due.row(-3, -4, -64, LEAST, 64, 65, MOST)) due.is("nodded(" + all + ", " + i + ")", NONE, x.nodded(all, i));
        }
        due.leaves("nodded(7, -3)", NONE, Busy::village, y -> y.nodded(7, -3));
        due.leaves("nodded(7, -2)", 3, Busy::village, y -> y.nodded(7, SURE));
        due.leaves("nodded(8, -3)", UNKNOWN, Busy::village, y -> y.nodded(8, -3));
    }

    private static void noddedOrder() {
        due.sentence("NODDED: SETS out of that SET; the i-th (fewest first, then rising)");
        SleeplessVillage x = Due.village(SIX);
        due.nodded("of three", x, 7, 0, 1, 2, 4, 3, 5, 6, 7);
        due.nodded("of two that are apart", x, 33, 0, 1, 32, 33);
        due.nodded("of one", x, 16, 0, 16);
        due.nodded("of nobody", x, 0, 0);
        int[] size = {1, 6, 15, 20, 15, 6, 1};
        int i = 0;
        for (int fewest = 0; fewest <= 6; fewest++) {
            int ahead = -1;
            for (int k = 0; k < size[fewest]; k++, i++) {
                int set = x.nodded(63, i);
                due.is("how many are in nodded(63, " + i + ")", fewest, Integer.bitCount(set));
                due.is("nodded(63, " + i + ") is above the one ahead", 1, set > ahead ? 1 : 0);
                ahead = set;
            }
        }
    }

    private static void noddedNone() {
        due.sentence("NODDED: by which all that is SEEN is so: how many; .. NONE");
        SleeplessVillage x = Due.village("k1 0 0 0;p0 0 0 0;p0 0 0 0;s1;s0;s3;");
        x.see(0, true);
        due.nodded("his only one nodded", x, 3, 1, 3);
        due.nodded("his only one is not on watch: nobody watched", x, 2, 2);
        due.nodded("nobody is on watch", x, 0, 0);
        x.see(0, false);
        due.nodded("he sat up and slept on", x, 3);
        due.nodded("he sat up and slept on", x, 0);
        x.tear();
        x.see(1, false);
        due.nodded("one without a SET slept on", x, 3, 0, 1, 2);
        due.nodded("one without a SET slept on, nobody watched", x, 0);
        x.tear();
        x.see(2, true);
        due.nodded("both of his watched", x, 3, 3);
        due.nodded("one of his watched", x, 1, 1);
        x.see(1, true);
        due.nodded("and one without a SET sat up", x, 3, 3);
    }

    private static void noddedSure() {
        due.sentence("NODDED: SURE: those in all of these (0 without)");
        SleeplessVillage x = Due.village("k1 0 0 0;p0 0 0 0;p0 0 0 0;p0 0 0 0;s3;s4;s0;");
        due.is("SURE where nothing is seen", 0, x.nodded(7, SURE));
        x.see(0, true);
        due.is("SURE of 3, 7", 3, x.nodded(7, SURE));
        due.is("SURE of 1, 5", 1, x.nodded(5, SURE));
        x.see(1, false);
        due.is("SURE of 3 alone", 3, x.nodded(7, SURE));
        due.is("SURE of none, where only 4 watched", 0, x.nodded(4, SURE));
        x.see(0, false);
        due.is("SURE of none", 0, x.nodded(7, SURE));
        due.is("none", 0, x.nodded(7, NONE));
        x.tear();
        x.see(2, true);
        due.is("SURE where all nodded", 7, x.nodded(7, SURE));
        due.is("SURE where nobody watched", 0, x.nodded(0, SURE));
        SleeplessVillage six = Due.village(SIX + "s0;");
        six.see(0, true);
        due.is("SURE of all six", 63, six.nodded(63, SURE));
    }

    private static void noddedWithoutContract() {
        due.sentence("Promise 22: UNKNOWN, and no other refusal");
        due.leaves("nodded(0, -1), no contract", 1, Busy::withoutContract, x -> x.nodded(0, NONE));
        due.leaves("nodded(0, -2), no contract", 0, Busy::withoutContract, x -> x.nodded(0, SURE));
        due.leaves("nodded(0, 0), no contract", 0, Busy::withoutContract, x -> x.nodded(0, 0));
        due.leaves("nodded(0, 1), no contract", NONE, Busy::withoutContract, x -> x.nodded(0, 1));
        due.leaves("nodded(1, -1), no contract", UNKNOWN, Busy::withoutContract, x -> x.nodded(1, NONE));
        due.leaves("askNext(0), no contract", NONE, Busy::withoutContract, x -> x.askNext(0));
        due.leaves("askNext(1), no contract", UNKNOWN, Busy::withoutContract, x -> x.askNext(1));
    }

    private static void askNextNone() {
        due.sentence("Promise 23: ASK NEXT; NONE. NONE: none parts them");
        due.is("askNext(63) without sleepers", NONE, Due.village(SIX).askNext(63));
        due.is("askNext(0): there is but one", NONE, Due.village(SIX + "s1;s0;").askNext(0));
        SleeplessVillage x = Due.village("k1 0 0 0;p0 0 0 0;p0 0 0 0;s1;s1;");
        due.is("askNext(3): two and two", 0, x.askNext(3));
        x.see(0, true);
        due.is("nodded(3, -1): two", 2, x.nodded(3, NONE));
        due.is("askNext(3): both told alike", NONE, x.askNext(3));
        x.see(1, false);
        due.is("nodded(3, -1): none", 0, x.nodded(3, NONE));
        due.is("askNext(3) of none", NONE, x.askNext(3));
        x = Due.village("k1 0 0 0;p0 0 0 0;s1;");
        due.is("askNext(1): one and one", 0, x.askNext(1));
        x.see(0, true);
        due.is("askNext(1) of one", NONE, x.askNext(1));
    }

    private static void askNextOfLikeOnes() {
        due.sentence("ASK NEXT: of like ones the least");
        due.is("askNext(63) of eight alike", 0, Due.village(SIX + "s1;".repeat(8)).askNext(63));
        due.is("askNext(63) of two alike behind worse ones", 2, Due.village(SIX + "s63;s3;s4;s1;").askNext(63));
        // either sits up just if both nod: 1 and 3
        due.is("askNext(3) of two unlike SETS that tell the same", 0, Due.village("k1 0 0 0;p0 0 0 0;p0 0 0 0;s3;s0;").askNext(3));
    }

    private static void askNextBest() {
        due.sentence("ASK NEXT: the greatest part that is alike is least");
        due.is("askNext(63): the eighth parts 32 and 32", 7, Due.village(SIX + "s63;s31;s15;s7;s3;s48;s56;s32;").askNext(63));
        due.is("askNext(63): the eighth is no better than the first", 0, Due.village(SIX + "s3;s31;s15;s7;s3;s48;s56;s60;").askNext(63));
        SleeplessVillage x = Due.village("k1 0 0 0;p0 0 0 0;p0 0 0 0;p0 0 0 0;s7;s3;");
        due.is("askNext(7): 6 and 2 is better than 7 and 1", 1, x.askNext(7));
        x.see(1, true);
        due.is("askNext(7): of 3, 7 the first tells", 0, x.askNext(7));
        due.is("askNext(3): of 3 alone nobody", NONE, x.askNext(3));
    }

    private static void writeBounds() {
        due.sentence("Promise 24: An entry behind THE BOOK (0 .. 199): how many. UNKNOWN, OUTSIDE");
        for (int p : Due.row(-1, 3, 5, 6, LEAST, MOST)) due.leaves("write(" + p + ", 0)", UNKNOWN, Busy::village, x -> x.write(p, 0));
        for (int tired : Due.row(-1, 200, 201, 1000, LEAST, MOST)) {
            due.leaves("write(0, " + tired + ")", OUTSIDE, Busy::village, x -> x.write(0, tired));
        }
        due.leaves("write(0, 0), no contract", UNKNOWN, Busy::withoutContract, x -> x.write(0, 0));
        due.is("write(0, 0)", 3, Busy.village().write(0, 0));
        due.is("write(2, 199)", 3, Busy.village().write(2, 199));
        due.is("write(5, 0) of six", 1, Due.village(SIX).write(5, 0));
        due.is("write(6, 0) of six", UNKNOWN, Due.village(SIX).write(6, 0));
    }

    private static void bookAtMost() {
        due.sentence("Promise 24: FULL (15); THE BOOK (15 at most)");
        SleeplessVillage x = Due.village("k1 0 0 0;p5 0 0 0;");
        for (int i = 1; i <= 15; i++) due.is("write(0, 5) no. " + i, i, x.write(0, 5));
        due.is("write(0, 6) no. 16", FULL, x.write(0, 6));
        due.is("no entry is otherwise", NONE, x.judge());
        due.is("told(15)", 15, x.told(15));
        for (int p = 0; p < 3; p++) {
            int watcher = p;
            due.leaves("write(" + p + ", 150), 15 entries", FULL, Busy::withFullBook, y -> y.write(watcher, 150));
        }
        due.is("tear()", 15, x.tear());
        due.is("write(0, 6) anew", 1, x.write(0, 6));
    }

    private static void tearCounts() {
        due.sentence("Promise 25: Nothing SEEN, THE BOOK is empty: how much both had");
        due.is("tear() of a new object", 0, new SleeplessVillage().tear());
        SleeplessVillage x = Due.village(Busy.THREE);
        due.leaves("tear() of nothing", 0, () -> Due.village(Busy.THREE), y -> y.tear());
        x.see(0, true);
        due.is("tear() of one seen", 1, x.tear());
        x.write(0, 0);
        due.is("tear() of one entry", 1, x.tear());
        for (int i = 0; i < 8; i++) x.see(0, true);
        for (int i = 0; i < 15; i++) x.write(0, 0);
        due.is("tear() of all that can be", 23, x.tear());
        due.are("all behind it", Whole.of(Due.village(Busy.THREE)), Whole.of(x));
        SleeplessVillage y = Busy.village();
        due.is("tear() amidst", 4, y.tear());
        due.are("told(6 .. 16) behind it", Due.row(10, 11, 90, 42, 2, 8, 1, 1, 0, 0, 6), y.told(6), y.told(7), y.told(8), y.told(9), y.told(10),
            y.told(11), y.told(12), y.told(13), y.told(14), y.told(15), y.told(16));
    }

    private static void judgeNone() {
        due.sentence("Promise 26: WRONG; NONE");
        due.leaves("judge() of a new object", NONE, SleeplessVillage::new, x -> x.judge());
        due.leaves("judge(), no contract", NONE, Busy::withoutContract, x -> x.judge());
        due.leaves("judge() of no book", NONE, () -> Due.village(Busy.THREE), x -> x.judge());
        due.leaves("judge() of 15 that are so", NONE, Busy::withFullBook, x -> x.judge());
        SleeplessVillage x = Due.village("k1 0 0 0;p50 0 0 0;");
        x.write(0, 50);
        due.is("judge() of 50", NONE, x.judge());
        x.tear();
        x.write(0, 49);
        due.is("judge() of one less", 0, x.judge());
        x.tear();
        x.write(0, 51);
        due.is("judge() of one more", 0, x.judge());
    }

    private static void judgeFirst() {
        due.sentence("WRONG: the first that is otherwise now");
        for (int wrong = 0; wrong < 15; wrong++) {
            SleeplessVillage x = Due.village("k1 0 0 0;p5 0 0 0;p6 0 0 0;");
            for (int i = 0; i < 15; i++) x.write(i % 2, i == wrong || i == 14 ? 99 : 5 + i % 2);
            due.is("judge() where entry " + wrong + " and the last are otherwise", wrong, x.judge());
        }
    }

    private static void judgeNow() {
        due.sentence("THE BOOK tells how TIRED WATCHERS are: otherwise now");
        SleeplessVillage x = Due.village("k1 0 0 0;p99 30 30 99;");
        x.write(0, 199);
        due.is("judge() of 199 by 99", 0, x.judge());
        for (int h = 0; h < 4; h++) x.hour(1, false);
        due.is("judge() of 199 by 199", NONE, x.judge());
        x.tear();
        x.write(0, 0);
        due.is("judge() of 0 by 199", 0, x.judge());
        x.rest(6);
        due.is("judge() of 0 by 19", 0, x.judge());
        x.rest(1);
        due.is("judge() of 0 by 0", NONE, x.judge());
        x.undo();
        due.is("judge() of 0 by 19 again", 0, x.judge());
    }
}
