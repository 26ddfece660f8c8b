import java.util.function.ToIntFunction;

/** Section 2 and promises 8 to 12 at their bounds: hours, bells, coffee, rest, drift, what is undone. */
public final class HourEdgeTest {
    private static final int NONE = SleeplessVillage.NONE, UNKNOWN = SleeplessVillage.UNKNOWN, OUTSIDE = SleeplessVillage.OUTSIDE,
        NOT = SleeplessVillage.NOT, FULL = SleeplessVillage.FULL;
    private static final int LEAST = Integer.MIN_VALUE, MOST = Integer.MAX_VALUE;
    private static final Due due = new Due("HourEdgeTest");

    public static void main(String[] args) {
        leastTired();
        mostTired();
        nodsAboveN();
        hoursNotWatched();
        sittingUpByOnesOwn();
        sittingUpWithoutOnesOwn();
        woolAndFines();
        mostWool();
        mostFines();
        bellAtNought();
        bellAheadOfAll();
        coffeeAtNought();
        coffeeOnceANight();
        nightsFromHourNought();
        nightsPassedAtOnce();
        hourRefusals();
        hourFull();
        coffeeRefusals();
        restBounds();
        restLeavesAlone();
        restFull();
        driftBounds();
        driftFull();
        undoCounts();
        undoOfEachKind();
        undoKeepsNoRefusals();
        undoNothing();
        due.close();
    }

    private static SleeplessVillage one(int tired, int a, int r, int n) {
        return Due.village("k6 1 1 20;p" + tired + " " + a + " " + r + " " + n + ";s1;");
    }

    private static void pass(SleeplessVillage x, int set, int hours) {
        for (int h = 0; h < hours; h++) x.hour(set, false);
    }

    // ---- section 2

    private static int tiredBehind(SleeplessVillage x, int set, int hours) {
        pass(x, set, hours);
        return x.watcher(0, 0);
    }

    private static void leastTired() {
        due.sentence("each other one R less (0 at least)");
        due.is("31 less 30", 1, tiredBehind(one(31, 0, 30, 99), 0, 1));
        due.is("30 less 30", 0, tiredBehind(one(30, 0, 30, 99), 0, 1));
        due.is("29 less 30", 0, tiredBehind(one(29, 0, 30, 99), 0, 1));
        due.is("0 less 1", 0, tiredBehind(one(0, 0, 1, 99), 0, 1));
        due.is("0 less 30, often", 0, tiredBehind(one(0, 0, 30, 99), 0, 5));
        due.is("5 less 0", 5, tiredBehind(one(5, 0, 0, 99), 0, 3));
        SleeplessVillage x = one(31, 0, 30, 99);
        x.rest(1);
        due.is("31 less 30 by rest()", 1, x.watcher(0, 0));
        x.rest(1);
        due.is("1 less 30 by rest()", 0, x.watcher(0, 0));
        x.hour(1, false);
        due.is("nothing is owed below 0", 0, x.watcher(0, 0));
    }

    private static void mostTired() {
        due.sentence("each of the SET is A more TIRED (199 at most)");
        due.is("78 and four times 30", 198, tiredBehind(one(78, 30, 0, 99), 1, 4));
        due.is("79 and four times 30", 199, tiredBehind(one(79, 30, 0, 99), 1, 4));
        due.is("80 and four times 30", 199, tiredBehind(one(80, 30, 0, 99), 1, 4));
        due.is("99 and 99 times 1", 198, tiredBehind(one(99, 1, 0, 99), 1, 99));
        due.is("99 and 100 times 1", 199, tiredBehind(one(99, 1, 0, 99), 1, 100));
        due.is("99 and 101 times 1", 199, tiredBehind(one(99, 1, 0, 99), 1, 101));
        SleeplessVillage x = one(99, 30, 7, 99);
        pass(x, 1, 9);
        due.is("nothing is kept above 199", 192, tiredBehind(x, 0, 1));
        due.is("A of 0", 50, tiredBehind(one(50, 0, 0, 99), 1, 5));
    }

    private static void nodsAboveN() {
        due.sentence("who of the SET is above N then NODS");
        due.is("0 by N 0", 0, one(0, 0, 0, 0).hour(1, false));
        due.is("1 by N 0", 1, one(1, 0, 0, 0).hour(1, false));
        due.is("99 by N 99", 0, one(99, 0, 0, 99).hour(1, false));
        due.is("100 by N 99", 1, one(99, 1, 0, 99).hour(1, false));
        due.is("60 by N 60, 50 at first", 0, one(50, 10, 0, 60).hour(1, false));
        due.is("61 by N 60, 51 at first", 1, one(51, 10, 0, 60).hour(1, false));
        due.is("who is not of the SET never does", 0, one(99, 0, 0, 0).hour(0, false));
        SleeplessVillage x = Due.village("k1 0 0 0;p5 0 0 4;p5 0 0 5;p5 0 0 4;p4 1 9 4;p3 1 0 4;p99 30 0 99;");
        due.is("of six", 1 | 4 | 8 | 32, x.hour(63, false));
        due.is("told(10)", 1 | 4 | 8 | 32, x.told(10));
        due.are("HOURS without NODDING", Due.row(0, 1, 0, 0, 1, 0), x.watcher(0, 4), x.watcher(1, 4), x.watcher(2, 4), x.watcher(3, 4),
            x.watcher(4, 4), x.watcher(5, 4));
    }

    /** Watchers 0 and 1 nod at once, 2 and 3 never. */
    private static SleeplessVillage two(String sleepers) {
        return Due.village("k6 5 3 0;p9 0 0 0;p9 0 0 0;p0 0 0 9;p0 0 0 9;" + sleepers);
    }

    private static void hoursNotWatched() {
        due.sentence("Nobody of the SET who does not NOD: the HOUR is not watched");
        for (int set = 0; set < 16; set++) {
            SleeplessVillage x = two("");
            due.is("hour(" + set + ")", set & 3, x.hour(set, false));
            due.is("not watched behind hour(" + set + ")", set < 4 ? 1 : 0, x.told(12));
            due.is("wool behind hour(" + set + ")", set < 4 ? 0 : 5, x.told(8));
        }
        SleeplessVillage x = Due.village("k1 5 3 0;s0;");
        x.hour(0, false);
        due.are("without watchers", Due.row(0, 1, 3), x.told(8), x.told(12), x.told(9));
    }

    private static int sittingUp(String sleepers, int set) {
        SleeplessVillage x = two(sleepers);
        x.hour(set, false);
        return x.told(11);
    }

    private static void sittingUpByOnesOwn() {
        due.sentence("A SLEEPER sits up, if all of his SET that watch NOD, and one does at least");
        due.is("his only one nods, another watches", 1, sittingUp("s1;", 5));
        due.is("his only one does not nod", 0, sittingUp("s4;", 5));
        due.is("both of his nod, another watches", 1, sittingUp("s3;", 7));
        due.is("one of his nods, one does not", 0, sittingUp("s5;", 5));
        due.is("one of his nods, one does not watch", 1, sittingUp("s5;", 9));
        due.is("one of his nods, nobody else", 1, sittingUp("s1;", 1));
        due.is("two nod, two do not, all are his", 0, sittingUp("s15;", 15));
        due.is("two of his nod, the others are not his", 1, sittingUp("s3;", 15));
    }

    private static void sittingUpWithoutOnesOwn() {
        due.sentence("or nobody of his SET watches and the HOUR is not watched");
        due.is("none of his, another watches", 0, sittingUp("s2;", 4));
        due.is("none of his, another watches, another nods", 0, sittingUp("s2;", 5));
        due.is("none of his, another nods", 1, sittingUp("s2;", 1));
        due.is("nobody watches at all", 1, sittingUp("s2;", 0));
        due.is("an empty SET, nobody watches", 1, sittingUp("s0;", 0));
        due.is("an empty SET, all nod", 1, sittingUp("s0;", 3));
        due.is("an empty SET, one does not nod", 0, sittingUp("s0;", 7));
        due.is("none of his, who would not nod", 1, sittingUp("s12;", 3));
    }

    private static void woolAndFines() {
        due.sentence("WOOL is W more, if it is watched; FINES are F more for each that sits up");
        for (int count = 0; count <= 8; count++) {
            SleeplessVillage x = two("s1;".repeat(count));
            x.hour(5, false);
            due.are("wool, fines for " + count, Due.row(5, 3 * count), x.told(8), x.told(9));
            x.hour(0, false);
            due.are("wool, fines for " + count + " again", Due.row(5, 6 * count), x.told(8), x.told(9));
            due.is("who sat up", (1 << count) - 1, x.told(11));
        }
        SleeplessVillage x = Due.village("k1 0 0 0;p0 0 0 9;s0;");
        x.hour(1, false);
        x.hour(0, false);
        due.are("W 0, F 0", Due.row(0, 0, 2), x.told(8), x.told(9), x.told(7));
    }

    private static void mostWool() {
        due.sentence("WOOL (999999 at most)");
        SleeplessVillage x = Due.village("k1 97 0 0;" + "p0 0 0 0;".repeat(6));
        // nobody nods: drift() leaves an hour unwatched only if it draws the empty set
        for (int i = 0; i < 172; i++) x.drift(60);
        int hours = (999999 - x.told(8)) / 97;
        for (int h = 0; h < hours; h++) x.hour(1, false);
        due.is("10309 times 97", 999973, x.told(8));
        x.hour(1, false);
        due.is("97 more", 999999, x.told(8));
        x.hour(1, false);
        due.is("97 more again", 999999, x.told(8));
        due.is("undo()", 19, x.undo());
        due.is("undo()", 18, x.undo());
        due.is("as ahead of it", 999973, x.told(8));
        x = Due.village("k1 99 0 0;" + "p0 0 0 0;".repeat(6));
        for (int i = 0; i < 168; i++) x.drift(60);
        hours = (999999 - x.told(8)) / 99;
        for (int h = 0; h < hours; h++) x.hour(1, false);
        due.is("10101 times 99", 999999, x.told(8));
        x.drift(60);
        due.is("by drift() neither", 999999, x.told(8));
    }

    private static void mostFines() {
        due.sentence("FINES (999999 at most, both)");
        SleeplessVillage x = Due.village("k1 0 97 0;p9 0 0 0;" + "s1;".repeat(8));
        // whoever is drawn nods: each hour fines eight times 97
        for (int i = 0; i < 21; i++) x.drift(60);
        due.is("1260 times 776", 977760, x.told(9));
        for (int h = 0; h < 28; h++) x.hour(1, false);
        due.is("1288 times 776", 999488, x.told(9));
        x.hour(1, false);
        due.is("776 more", 999999, x.told(9));
        x.hour(0, false);
        due.is("776 more again", 999999, x.told(9));
        x.drift(1);
        due.is("by drift() neither", 999999, x.told(9));
        due.is("hours go on", 1291, x.told(7));
    }

    private static int rung(int tired, int b, int a, int set) {
        SleeplessVillage x = Due.village("k1 0 0 " + b + ";p" + tired + " " + a + " 3 99;");
        x.hour(set, true);
        return x.watcher(0, 0);
    }

    private static void bellAtNought() {
        due.sentence("each of the SET is B less TIRED (0 at least)");
        due.is("21 by B 20", 1, rung(21, 20, 0, 1));
        due.is("20 by B 20", 0, rung(20, 20, 0, 1));
        due.is("19 by B 20", 0, rung(19, 20, 0, 1));
        due.is("0 by B 20", 0, rung(0, 20, 0, 1));
        due.is("5 by B 0", 5, rung(5, 0, 0, 1));
        due.is("1 by B 1", 0, rung(1, 1, 0, 1));
        due.is("of the SET alone: who rests is R less", 18, rung(21, 20, 0, 0));
    }

    private static void bellAheadOfAll() {
        due.sentence("A BELL in an HOUR: ahead of all this");
        due.is("10 by B 20, 5 more", 5, rung(10, 20, 5, 1));
        due.is("25 by B 20, 5 more", 10, rung(25, 20, 5, 1));
        due.is("70 less 20 by N 50", 0, one(70, 0, 0, 50).hour(1, true));
        due.is("71 less 20 by N 50", 1, one(71, 0, 0, 50).hour(1, true));
        SleeplessVillage x = one(99, 30, 0, 99);
        pass(x, 1, 9);
        x.hour(1, true);
        due.is("199 less 20, 30 more", 199, x.watcher(0, 0));
        x = one(99, 10, 0, 99);
        pass(x, 1, 10);
        x.hour(1, true);
        due.is("199 less 20, 10 more", 189, x.watcher(0, 0));
    }

    private static void coffeeAtNought() {
        due.sentence("COFFEE: a WATCHER is 30 less TIRED at once (0 at least)");
        due.are("coffee(0) of 31, 30, 29, 0, 99", Due.row(1, 0, 0, 0, 69), one(31, 1, 1, 9).coffee(0), one(30, 1, 1, 9).coffee(0),
            one(29, 1, 1, 9).coffee(0), one(0, 1, 1, 9).coffee(0), one(99, 1, 1, 9).coffee(0));
        SleeplessVillage x = one(29, 1, 1, 9);
        x.coffee(0);
        due.is("tired at once", 0, x.watcher(0, 0));
        due.is("no hour passes", 0, x.told(7));
        x.hour(1, false);
        due.is("nothing is owed below 0", 1, x.watcher(0, 0));
        x = one(99, 30, 0, 99);
        pass(x, 1, 9);
        due.is("coffee(0) of 199", 169, x.coffee(0));
    }

    private static void coffeeOnceANight() {
        due.sentence("once a NIGHT each (a NIGHT is H HOURS)");
        for (int h = 1; h <= 6; h++) {
            String text = "k" + h + " 0 0 0;p99 0 0 99;p99 0 0 99;";
            onceANight(text, h, "hour()", x -> x.hour(1, false));
            onceANight(text, h, "rest(1)", x -> x.rest(1));
            onceANight(text, h, "drift(1)", x -> x.drift(1));
        }
    }

    private static void onceANight(String text, int h, String by, ToIntFunction<SleeplessVillage> passHour) {
        SleeplessVillage x = Due.village(text);
        due.is("coffee(0) at hour 0, H " + h, 69, x.coffee(0));
        due.is("coffee(0) again at hour 0, H " + h, NOT, x.coffee(0));
        due.is("each: coffee(1) at hour 0, H " + h, 69, x.coffee(1));
        for (int hour = 1; hour < h; hour++) {
            passHour.applyAsInt(x);
            due.is("coffee(0) at hour " + hour + " by " + by + ", H " + h, NOT, x.coffee(0));
            due.is("told(13) at hour " + hour + " by " + by + ", H " + h, 3, x.told(13));
        }
        passHour.applyAsInt(x);
        due.is("told(13) at hour " + h + " by " + by, 0, x.told(13));
        due.is("coffee(0) at hour " + h + " by " + by, 39, x.coffee(0));
        due.is("told(13) behind it", 1, x.told(13));
        due.is("coffee(0) again at hour " + h + " by " + by, NOT, x.coffee(0));
    }

    private static void nightsFromHourNought() {
        due.sentence("a NIGHT is H HOURS, from HOUR 0 on");
        for (int h = 2; h <= 6; h++) {
            SleeplessVillage x = Due.village("k" + h + " 0 0 0;p99 0 0 99;");
            x.rest(h - 1);
            due.is("coffee(0) in the last hour of the first night, H " + h, 69, x.coffee(0));
            x.rest(1);
            due.is("coffee(0) an hour later, H " + h, 39, x.coffee(0));
            x.rest(h - 1);
            due.is("coffee(0) in the last hour of the second night, H " + h, NOT, x.coffee(0));
            x.rest(1);
            due.is("coffee(0) in the third night, H " + h, 9, x.coffee(0));
        }
    }

    private static void nightsPassedAtOnce() {
        due.sentence("a NIGHT is H HOURS: passed by more than one at once, too");
        SleeplessVillage x = Due.village("k4 0 0 0;p99 0 0 99;");
        x.rest(1);
        x.coffee(0);
        x.rest(2);
        due.is("from hour 1 to 3", 1, x.told(13));
        x.undo();
        x.rest(3);
        due.is("from hour 1 to 4", 0, x.told(13));
        x.undo();
        x.rest(4);
        due.is("from hour 1 to 5", 0, x.told(13));
        x.undo();
        x.drift(2);
        due.is("from hour 1 to 3 by draws", 1, x.told(13));
        x.undo();
        x.drift(5);
        due.is("from hour 1 to 6 by draws", 0, x.told(13));
        x.undo();
        due.is("as ahead of it", 1, x.told(13));
        due.is("coffee(0) as ahead of it", NOT, x.coffee(0));
    }

    // ---- promises 8 to 12

    private static void hourRefusals() {
        due.sentence("Promise 8: UNKNOWN, NOT: no CONTRACT");
        for (int set : Due.row(8, 9, -1, 16, 256, LEAST, MOST)) due.leaves("hour(" + set + ", false)", UNKNOWN, Busy::village, x -> x.hour(set, false));
        due.leaves("hour(0, false), no contract", NOT, Busy::withoutContract, x -> x.hour(0, false));
        due.leaves("hour(0, true), no contract", NOT, Busy::withoutContract, x -> x.hour(0, true));
        due.leaves("hour(1, true), no contract", UNKNOWN, Busy::withoutContract, x -> x.hour(1, true));
        SleeplessVillage x = Busy.village();
        // 8, 37 and 0 tired: the first is 16, the second 49, the third 3
        due.is("hour(7, false)", 2, x.hour(7, false));
        due.is("hour(0, false)", 0, x.hour(0, false));
    }

    private static void hourFull() {
        due.sentence("Promise 8: FULL: HOURS are above 90000");
        SleeplessVillage x = Busy.atHour(90000);
        due.is("hour() at 90000", 0, x.hour(0, false));
        due.is("hours", 90001, x.told(7));
        due.is("hour() at 90001", FULL, x.hour(0, false));
        due.is("hours behind a refusal", 90001, x.told(7));
        due.is("undo()", 19, x.undo());
        due.is("hour() at 90000 again", 0, x.hour(1, false));
        due.leaves("hour(7, true) at 90001", FULL, () -> Busy.atHour(90001), y -> y.hour(7, true));
    }

    private static void coffeeRefusals() {
        due.sentence("Promise 9: UNKNOWN, NOT: he had it this NIGHT");
        for (int p : Due.row(-1, 3, 5, 6, 31, 32, LEAST, MOST)) due.leaves("coffee(" + p + ")", UNKNOWN, Busy::village, x -> x.coffee(p));
        due.leaves("coffee(0), had", NOT, Busy::village, x -> x.coffee(0));
        due.leaves("coffee(0), no contract", UNKNOWN, Busy::withoutContract, x -> x.coffee(0));
        due.is("coffee(1) of 37", 7, Busy.village().coffee(1));
        due.is("coffee(2) of 0", 0, Busy.village().coffee(2));
        SleeplessVillage x = Due.village("k2 0 0 0;" + "p50 0 0 99;".repeat(6));
        for (int p = 0; p < 6; p++) {
            due.is("coffee(" + p + ")", 20, x.coffee(p));
            due.is("told(13)", (2 << p) - 1, x.told(13));
        }
        for (int p = 0; p < 6; p++) due.is("coffee(" + p + ") again", NOT, x.coffee(p));
        due.is("coffee(6)", UNKNOWN, x.coffee(6));
    }

    private static void restBounds() {
        due.sentence("Promise 10: n HOURS (1 .. 60): HOURS. OUTSIDE, NOT: no CONTRACT");
        for (int n : Due.row(0, 61, -1, -60, LEAST, MOST)) due.leaves("rest(" + n + ")", OUTSIDE, Busy::village, x -> x.rest(n));
        due.leaves("rest(1), no contract", NOT, Busy::withoutContract, x -> x.rest(1));
        for (int n : Due.row(1, 2, 59, 60)) {
            SleeplessVillage x = Due.village("k1 0 0 0;p99 0 1 99;");
            due.is("rest(" + n + ")", n, x.rest(n));
            due.is("tired behind rest(" + n + ")", 99 - n, x.watcher(0, 0));
            due.is("hours behind rest(" + n + ")", n, x.told(7));
            due.is("undone at once", 0, x.undo());
            due.is("hours behind that", 0, x.told(7));
        }
        due.is("rest(60) without watchers", 60, Due.village("k1 0 0 0;").rest(60));
    }

    private static void restLeavesAlone() {
        due.sentence("Promise 10: nothing is watched, paid, fined (they do not count as HOURS not watched; nobody NODDED, sat up in the latest then)");
        SleeplessVillage x = Due.village("k2 5 7 3;p9 0 1 0;p0 0 0 9;s1;s0;");
        x.hour(3, false);
        x.hour(1, false);
        due.are("told(7 .. 12) ahead", Due.row(2, 5, 21, 1, 3, 1), x.told(7), x.told(8), x.told(9), x.told(10), x.told(11), x.told(12));
        x.rest(3);
        due.are("told(7 .. 12) behind", Due.row(5, 5, 21, 0, 0, 1), x.told(7), x.told(8), x.told(9), x.told(10), x.told(11), x.told(12));
        due.are("HOURS without NODDING", Due.row(0, 1), x.watcher(0, 4), x.watcher(1, 4));
        due.is("the seed", 0, x.seed(0));
    }

    private static void restFull() {
        due.sentence("Promise 10: FULL: HOURS are above 90000 as it is called (n may pass that)");
        due.is("rest(1) at 90000", 90001, Busy.atHour(90000).rest(1));
        due.is("rest(60) at 90000", 90060, Busy.atHour(90000).rest(60));
        due.is("rest(60) at 89999", 90059, Busy.atHour(89999).rest(60));
        due.leaves("rest(1) at 90001", FULL, () -> Busy.atHour(90001), x -> x.rest(1));
        due.leaves("rest(60) at 90060", FULL, () -> Busy.atHour(90060), x -> x.rest(60));
    }

    private static void driftBounds() {
        due.sentence("Promise 11: n HOURS (1 .. 60) BY DRAWS: HOURS. OUTSIDE, NOT: no CONTRACT");
        for (int n : Due.row(0, 61, -1, -60, LEAST, MOST)) due.leaves("drift(" + n + ")", OUTSIDE, Busy::village, x -> x.drift(n));
        due.leaves("drift(1), no contract", NOT, Busy::withoutContract, x -> x.drift(1));
        for (int n : Due.row(1, 2, 59, 60)) {
            SleeplessVillage x = Due.village("k1 0 0 0;p99 0 0 0;");
            due.is("drift(" + n + ")", n, x.drift(n));
            due.is("hours behind drift(" + n + ")", n, x.told(7));
            due.is("hours not watched count", n, x.told(12));
            due.is("undone at once", 0, x.undo());
            due.is("hours behind that", 0, x.told(7));
        }
        due.is("drift(60) without watchers", 60, Due.village("k1 0 0 0;").drift(60));
    }

    private static void driftFull() {
        due.sentence("Promise 11: FULL: HOURS are above 90000 as it is called (n may pass that)");
        due.is("drift(1) at 90000", 90001, Busy.atHour(90000).drift(1));
        due.is("drift(60) at 90000", 90060, Busy.atHour(90000).drift(60));
        due.is("drift(60) at 89999", 90059, Busy.atHour(89999).drift(60));
        due.leaves("drift(1) at 90001", FULL, () -> Busy.atHour(90001), x -> x.drift(1));
        due.leaves("drift(60) at 90060", FULL, () -> Busy.atHour(90060), x -> x.drift(60));
    }

    private static void undoCounts() {
        due.sentence("Promise 12: The latest is undone: how many more can be. NOT: none; 20 at most are kept, the oldest are lost");
        for (int done : Due.row(0, 1, 2, 19, 20, 21, 22, 39, 40, 41, 100)) {
            SleeplessVillage x = Due.village("k6 1 0 0;p0 1 0 99;");
            int kept = Math.min(20, done);
            for (int h = 0; h < done; h++) {
                x.hour(1, false);
                due.is("told(16) behind " + (h + 1), Math.min(20, h + 1), x.told(16));
            }
            for (int left = kept - 1; left >= 0; left--) {
                due.is("undo() of " + done, left, x.undo());
                due.is("hours behind undo() of " + done, done - kept + left, x.told(7));
                due.is("wool behind undo() of " + done, done - kept + left, x.told(8));
            }
            due.is("undo() of what is lost of " + done, NOT, x.undo());
            due.is("hours behind a refusal", done - kept, x.told(7));
        }
    }

    private static void undoOfEachKind() {
        due.sentence("UNDONE: the latest of hour(), coffee(), rest(), drift(): all of section 2 is as ahead of it; THE SEED stays");
        undone("hour(7, true)", x -> x.hour(7, true));
        undone("hour(0, false)", x -> x.hour(0, false));
        undone("coffee(1)", x -> x.coffee(1));
        undone("rest(1)", x -> x.rest(1));
        undone("rest(60)", x -> x.rest(60));
        undone("drift(1)", x -> x.drift(1));
        undone("drift(60)", x -> x.drift(60));
        SleeplessVillage x = Due.village("k1 0 0 0;p0 0 0 0;");
        x.drift(1);
        x.undo();
        // 12345, then 12345 times 1103515245 and 12345, left over by 2 to the 31
        due.is("the seed behind two draws that are undone", 1406932606, x.seed(0));
    }

    private static void undone(String call, ToIntFunction<SleeplessVillage> done) {
        SleeplessVillage x = Busy.village();
        int seed = x.seed(0);
        x.seed(seed);
        due.is(call + " is not refused", 1, done.applyAsInt(x) >= 0 ? 1 : 0);
        due.is("told(16) behind " + call, 7, x.told(16));
        due.is("undo() of " + call, 6, x.undo());
        // only drift() draws, and its draws stay drawn
        if (call.startsWith("drift")) due.is("the seed has gone on", 0, x.seed(seed) == seed ? 1 : 0);
        due.are("all behind undo() of " + call, Whole.of(Busy.village()), Whole.of(x));
    }

    private static void undoKeepsNoRefusals() {
        due.sentence("UNDONE: the latest .. that was not refused");
        SleeplessVillage x = Busy.village();
        due.are("refused", Due.row(UNKNOWN, UNKNOWN, NOT, OUTSIDE, OUTSIDE, OUTSIDE, OUTSIDE), x.hour(8, false), x.coffee(3), x.coffee(0), x.rest(0),
            x.rest(61), x.drift(0), x.drift(61));
        due.is("told(16)", 6, x.told(16));
        due.is("undo()", 5, x.undo());
        due.is("the latest hour is undone", 10, x.told(7));
        due.is("undo() of coffee", 4, x.undo());
        due.are("the coffee is undone", Due.row(10, 0), x.told(7), x.told(13));
    }

    private static void undoNothing() {
        due.sentence("Promise 12: NOT: none");
        due.leaves("undo(), just kept", NOT, Busy::justKept, x -> x.undo());
        due.leaves("undo(), no contract", NOT, Busy::withoutContract, x -> x.undo());
        due.leaves("undo(), new", NOT, SleeplessVillage::new, x -> x.undo());
        SleeplessVillage x = Busy.village();
        for (int left = 5; left >= 0; left--) due.is("undo()", left, x.undo());
        due.is("undo() of none", NOT, x.undo());
        due.is("watches() is no such call", NONE, x.watches(9));
        x.see(0, true);
        x.write(0, 0);
        x.seed(3);
        x.feed('k');
        x.tear();
        due.is("nor are see(), write(), seed(), feed(), tear()", NOT, x.undo());
    }
}
