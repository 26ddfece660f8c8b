import java.math.BigInteger;

/** Promises 13 to 20 at their bounds: watches, bell, coffee, nights, strike, shares, blinks; what is answered when there is none. */
public final class TriedEdgeTest {
    private static final int NONE = SleeplessVillage.NONE, UNKNOWN = SleeplessVillage.UNKNOWN, OUTSIDE = SleeplessVillage.OUTSIDE,
        NOT = SleeplessVillage.NOT;
    private static final int LEAST = Integer.MIN_VALUE, MOST = Integer.MAX_VALUE, BILLION = 1000000000;
    private static final Due due = new Due("TriedEdgeTest");

    public static void main(String[] args) {
        watchesWithoutContract();
        watchesByIndex();
        watchesAtN();
        watchesNone();
        watchesByTheEnd();
        watchesOfLikeOnes();
        watchesAtTheBoundsOfTired();
        bellHourBounds();
        bellHourOfLikeOnes();
        bellHourCounts();
        coffeeForBounds();
        coffeeForAtNought();
        nightsBounds();
        nightsNone();
        nightsFromNow();
        holdBounds();
        holdNone();
        shareBounds();
        shareCut();
        paidBounds();
        paidAtNought();
        blinkBounds();
        blinkHundredAtMost();
        blinkCut();
        due.close();
    }

    private static SleeplessVillage night(int h, String rest) {
        return Due.village("k" + h + " 0 0 0;" + rest);
    }

    /** One watcher, who has watched as long as it takes to be as tired as can be: 199. */
    private static SleeplessVillage tiredOut(String text) {
        SleeplessVillage x = Due.village(text);
        for (int h = 0; h < 10; h++) x.hour(1, false);
        return x;
    }

    private static void watchesWithoutContract() {
        due.sentence("Promise 13: NOT: no CONTRACT");
        for (int i : Due.row(NONE, 0, 5, 6, -2, LEAST, MOST)) due.leaves("watches(" + i + "), no contract", NOT, Busy::withoutContract, x -> x.watches(i));
        due.is("watches(-1) with a contract, without watchers", NONE, night(1, "").watches(NONE));
    }

    private static void watchesByIndex() {
        due.sentence("Promise 13: i = NONE the greatest TIRED, else a WATCHER; NONE");
        for (int h = 1; h <= 6; h++) {
            SleeplessVillage x = night(h, "p0 1 1 99;");
            due.is("watches(-1), H " + h, h, x.watches(NONE));
            for (int i = 0; i < h; i++) due.is("watches(" + i + "), H " + h, 0, x.watches(i));
            for (int i : Due.row(h, h + 1, 6, 7, MOST, -2, -3, LEAST)) due.is("watches(" + i + "), H " + h, NONE, x.watches(i));
        }
        due.leaves("watches(-2)", NONE, Busy::village, x -> x.watches(-2));
        due.leaves("watches(3), H 3", NONE, Busy::village, x -> x.watches(3));
        due.leaves("watches(2), H 3", 2, Busy::village, x -> x.watches(2));
    }

    private static void watchesAtN() {
        due.sentence("WATCHES: so that nobody NODS");
        due.watches("at N", night(1, "p4 1 0 5;"), 5, 0);
        due.watches("above N", night(1, "p5 1 0 5;"), NONE, NONE);
        due.watches("at N in the last hour", night(6, "p0 3 0 18;"), 18, 0, 0, 0, 0, 0, 0);
        due.watches("above N in the last hour", night(6, "p0 3 0 17;"), NONE, NONE, NONE, NONE, NONE, NONE, NONE);
        due.watches("above N in rest is no nod", night(2, "p50 1 1 0;p0 1 1 9;"), 48, 1, 1);
        due.watches("by resting between", night(3, "p0 5 5 5;p1 4 4 5;"), 5, 0, 1, 0);
        due.watches("at once above N, then rested", night(2, "p9 1 4 6;p0 5 1 5;"), 6, 1, 0);
    }

    private static void watchesNone() {
        due.sentence("WATCHES: .. NONE");
        due.watches("without watchers", night(6, ""), NONE, NONE, NONE, NONE, NONE, NONE, NONE);
        due.watches("without watchers, with sleepers", night(1, "s0;"), NONE, NONE);
        due.watches("where all nod at once", night(1, "p1 0 0 0;".repeat(6)), NONE, NONE);
        due.watches("where all but the last nod at once", night(1, "p1 0 0 0;".repeat(5) + "p0 0 0 0;"), 1, 5);
        due.watches("where each can once, five for six hours", night(6, "p0 1 0 1;".repeat(5)), NONE, NONE, NONE, NONE, NONE, NONE, NONE);
        due.watches("where each can once, six for six hours", night(6, "p0 1 0 1;".repeat(6)), 1, 0, 1, 2, 3, 4, 5);
    }

    private static void watchesByTheEnd() {
        due.sentence("WATCHES: the one by which the greatest TIRED behind all is least");
        // who is 9 in the first hour is rested at the end
        due.watches("not the greatest between", night(2, "p0 9 9 9;p4 2 0 7;"), 6, 0, 1);
        due.watches("of those who do not watch, too", night(1, "p0 1 0 9;p50 1 0 9;"), 50, 0);
        due.watches("where it takes the last one", night(1, "p5 5 0 99;p5 4 0 99;p5 3 0 99;p5 2 0 99;p5 1 0 99;p5 0 0 99;"), 5, 5);
        due.watches("where all else is one worse", night(2, "p0 4 0 99;p0 3 0 99;"), 4, 0, 1);
    }

    private static void watchesOfLikeOnes() {
        due.sentence("WATCHES: of like ones the first (HOUR by HOUR the lesser WATCHER)");
        due.watches("where all are alike", night(6, "p0 0 0 0;".repeat(6)), 0, 0, 0, 0, 0, 0, 0);
        due.watches("in turn", night(2, "p0 2 0 9;p0 2 0 9;"), 2, 0, 1);
        due.watches("of three for two hours", night(2, "p0 2 0 9;p0 2 0 9;p0 2 0 9;"), 2, 0, 1);
        due.watches("where a third one sets the end", night(2, "p0 1 0 9;p0 1 0 9;p20 1 0 9;"), 20, 0, 0);
        // the first hour decides: 0 then 2 comes ahead of 1 then 0
        due.watches("by the first hour", night(2, "p0 3 0 9;p1 2 0 9;p2 1 0 9;"), 3, 0, 1);
    }

    private static void watchesAtTheBoundsOfTired() {
        due.sentence("WATCHES by TIRED of 0 at least, 199 at most");
        due.watches("all end at 0", night(2, "p0 0 30 0;p29 0 30 0;"), 0, 0, 0);
        SleeplessVillage x = tiredOut("k1 0 0 0;p99 30 0 99;p0 1 0 99;");
        due.watches("beside one at 199", x, 199, 1);
        x = tiredOut("k1 0 0 0;p99 30 1 99;p0 1 0 99;");
        due.watches("beside one who rests at 199", x, 198, 1);
        x = tiredOut("k1 0 0 0;p99 30 1 99;");
        due.watches("of one at 199", x, NONE, NONE);
    }

    private static void bellHourBounds() {
        due.sentence("Promise 14: what = 0 which (from now: 0 ..), 1 how many NODS. OUTSIDE, NOT: no CONTRACT");
        for (int what : Due.row(-1, 2, 3, LEAST, MOST)) due.leaves("bellHour(" + what + ")", OUTSIDE, Busy::village, x -> x.bellHour(what));
        due.leaves("bellHour(0), no contract", NOT, Busy::withoutContract, x -> x.bellHour(0));
        due.leaves("bellHour(1), no contract", NOT, Busy::withoutContract, x -> x.bellHour(1));
        // 8 and 8 an hour nods at 32 in the third hour without a bell, whichever hour has it helps; 37 nods thrice
        due.leaves("bellHour(0)", 0, Busy::village, x -> x.bellHour(0));
        due.leaves("bellHour(1)", 3, Busy::village, x -> x.bellHour(1));
    }

    private static void bellAre(String text, int which, int nods) {
        SleeplessVillage x = Due.village(text);
        due.are("bellHour(0 .. 1) of " + text, Due.row(which, nods), x.bellHour(0), x.bellHour(1));
    }

    private static void bellHourOfLikeOnes() {
        due.sentence("BELL HOUR: in which fewest NODS come together; of like ones the first");
        bellAre("k6 0 0 20;p0 0 0 0;", 0, 0);
        bellAre("k6 0 0 0;p1 0 0 0;", 0, 6);
        bellAre("k1 0 0 20;p99 0 0 78;", 0, 1);
        bellAre("k1 0 0 20;p99 0 0 79;", 0, 0);
        // 3, 6, 9 do not nod: a bell in hour 3 begins that anew, one ahead of it or behind it leaves a nod
        bellAre("k6 0 0 20;p0 3 0 9;", 3, 0);
        bellAre("k6 0 0 20;p0 3 0 8;", 2, 2);
        // from 0 on a bell in hour 0 is lost
        bellAre("k2 0 0 20;p0 1 0 1;", 1, 0);
        bellAre("k2 0 0 20;p1 1 0 1;", 0, 1);
        // one is helped by hour 0 (twice), the other by hour 1 (once): together hour 0
        bellAre("k2 0 0 5;p5 0 0 0;p0 5 0 5;", 0, 1);
        bellAre("k2 0 0 5;p5 0 0 0;" + "p0 5 0 5;".repeat(2), 1, 1);
    }

    private static void bellHourCounts() {
        due.sentence("BELL HOUR: .. how many");
        bellAre("k6 0 0 0;" + "p1 0 0 0;".repeat(6), 0, 36);
        bellAre("k6 0 0 20;", 0, 0);
        bellAre("k1 0 0 20;s0;", 0, 0);
        bellAre("k6 0 0 20;" + "p0 0 0 0;".repeat(6), 0, 0);
        SleeplessVillage x = Due.village("k2 0 0 5;p5 1 0 0;p5 0 0 4;");
        x.hour(0, false);
        due.are("from now: not from the night's beginning", Due.row(0, 2), x.bellHour(0), x.bellHour(1));
    }

    private static void coffeeForBounds() {
        due.sentence("Promise 15: COFFEE FOR; NONE. NOT: no CONTRACT; of like ones the least; NONE: no WATCHERS");
        due.leaves("coffeeFor(), no contract", NOT, Busy::withoutContract, x -> x.coffeeFor());
        due.is("coffeeFor() without watchers", NONE, night(3, "").coffeeFor());
        due.is("coffeeFor() without watchers, with sleepers", NONE, night(3, "s0;").coffeeFor());
        due.is("coffeeFor() of one whom it does not help", 0, night(1, "p99 0 0 0;").coffeeFor());
        due.is("coffeeFor() of six alike", 0, night(1, "p30 0 0 0;".repeat(6)).coffeeFor());
        due.is("coffeeFor() where it helps the last alone", 5, night(1, "p99 0 0 0;".repeat(5) + "p30 0 0 0;").coffeeFor());
        due.is("coffeeFor() where it helps the last most", 5, night(2, "p0 30 0 59;".repeat(5) + "p31 0 0 1;").coffeeFor());
    }

    private static void coffeeForAtNought() {
        due.sentence("COFFEE FOR: who should have COFFEE now (whether he had it or not)");
        // 29 would be -1 by 30 less: he is 0, and 1 in the hour
        due.is("coffeeFor() by 0 at least", 1, night(1, "p29 1 0 0;p30 0 0 0;").coffeeFor());
        due.is("coffeeFor() of 31", 1, night(1, "p31 0 0 0;p30 0 0 0;").coffeeFor());
        SleeplessVillage x = night(6, "p99 30 0 99;p0 0 0 0;");
        due.is("coffeeFor() ahead", 0, x.coffeeFor());
        x.coffee(0);
        due.is("coffeeFor() of one who had it", 0, x.coffeeFor());
        x = night(2, "p0 0 0 0;p60 0 0 30;p60 0 0 9;");
        due.is("coffeeFor() ahead", 1, x.coffeeFor());
        x.coffee(2);
        due.is("coffeeFor(): it helps both alike then", 1, x.coffeeFor());
        x.coffee(1);
        due.is("coffeeFor(): it helps the other, who had it", 2, x.coffeeFor());
    }

    private static int nightsOf(String text) {
        return Due.village(text).nights(0);
    }

    private static void nightsBounds() {
        due.sentence("Promise 16: NIGHTS; NONE. UNKNOWN; how many whole NIGHTS from now (0 .. 99)");
        for (int p : Due.row(-1, 3, 5, 6, LEAST, MOST)) due.leaves("nights(" + p + ")", UNKNOWN, Busy::village, x -> x.nights(p));
        due.leaves("nights(0), no contract", UNKNOWN, Busy::withoutContract, x -> x.nights(0));
        due.is("nights(5) of six", 1, night(1, "p1 0 0 0;".repeat(5) + "p0 1 0 1;").nights(5));
        due.is("he nods in the first hour", 0, nightsOf("k6 0 0 0;p1 0 0 0;"));
        for (int h = 1; h <= 6; h++) {
            due.is("in the last hour of the first night, H " + h, 0, nightsOf("k" + h + " 0 0 0;p0 1 0 " + (h - 1) + ";"));
            due.is("in the first hour of the second night, H " + h, 1, nightsOf("k" + h + " 0 0 0;p0 1 0 " + h + ";"));
            due.is("in the last hour of the second night, H " + h, 1, nightsOf("k" + h + " 0 0 0;p0 1 0 " + (2 * h - 1) + ";"));
            due.is("in the first hour of the third night, H " + h, 2, nightsOf("k" + h + " 0 0 0;p0 1 0 " + 2 * h + ";"));
            due.is("in the hour that is 100, H " + h, 99 / h, nightsOf("k" + h + " 0 0 0;p0 1 0 99;"));
        }
    }

    private static void nightsNone() {
        due.sentence("NIGHTS: NONE: in none of 100");
        due.is("in the last of 100", 99, nightsOf("k1 0 0 0;p0 1 0 99;"));
        due.is("in the last but one", 98, nightsOf("k1 0 0 0;p0 1 0 98;"));
        due.is("never, at N", NONE, nightsOf("k1 0 0 0;p99 0 0 99;"));
        due.is("never, six hours a night", NONE, nightsOf("k6 0 0 0;p0 0 30 0;"));
        due.is("above N by one, never more tired", 0, nightsOf("k1 0 0 0;p99 0 0 98;"));
    }

    private static void nightsFromNow() {
        due.sentence("NIGHTS: from now");
        SleeplessVillage x = night(3, "p0 1 0 3;");
        x.rest(1);
        due.is("nights(0) within a night", 1, x.nights(0));
        x.rest(1);
        due.is("nights(0) within a night, later", 1, x.nights(0));
        x.hour(1, false);
        due.is("nights(0), one more tired", 0, x.nights(0));
        x = tiredOut("k1 0 0 0;p99 30 30 99;");
        due.is("nights(0) of 199", 0, x.nights(0));
    }

    private static void holdBounds() {
        due.sentence("Promise 17: HOLD; NONE. NOT: no CONTRACT; the fewest WATCHERS (a SET, of like ones the least)");
        due.leaves("hold(), no contract", NOT, Busy::withoutContract, x -> x.hold());
        due.leaves("hold()", 4, Busy::village, x -> x.hold());
        for (int last = 0; last < 6; last++) {
            due.is("hold() by " + last + " alone", 1 << last, night(2, "p1 0 0 0;".repeat(last) + "p0 0 0 0;" + "p1 0 0 0;".repeat(5 - last)).hold());
            due.is("hold() from " + last + " on", 1 << last, night(2, "p1 0 0 0;".repeat(last) + "p0 0 0 0;".repeat(6 - last)).hold());
        }
    }

    private static void holdNone() {
        due.sentence("HOLD: so that each HOUR is watched: the SET; NONE");
        due.is("hold() without watchers", NONE, night(1, "").hold());
        due.is("hold() where all nod", NONE, night(1, "p1 0 0 0;".repeat(6)).hold());
        for (int h = 1; h <= 6; h++) {
            due.is("hold() at N in the last hour, H " + h, 1, night(h, "p0 2 0 " + 2 * h + ";").hold());
            due.is("hold() above N in the last hour, H " + h, NONE, night(h, "p0 2 0 " + (2 * h - 1) + ";").hold());
        }
    }

    private static void shareBounds() {
        due.sentence("Promise 18: SHARES. UNKNOWN; 0, if nobody has");
        for (int p : Due.row(-1, 3, 5, 6, LEAST, MOST)) due.leaves("share(" + p + ")", UNKNOWN, Busy::village, x -> x.share(p));
        due.leaves("share(0), no contract", UNKNOWN, Busy::withoutContract, x -> x.share(0));
        SleeplessVillage x = Due.village("k1 9 0 0;p0 0 0 0;p1 0 0 0;");
        due.are("ahead of any hour", Due.row(0, 0), x.share(0), x.share(1));
        x.hour(2, false);
        due.are("where he nodded", Due.row(0, 0), x.share(0), x.share(1));
        x.rest(60);
        due.are("behind rest", Due.row(0, 0), x.share(0), x.share(1));
        x.hour(3, false);
        due.are("where one has", Due.row(1000, 0), x.share(0), x.share(1));
    }

    private static void shareCut() {
        due.sentence("SHARES: thousandths (cut) of one");
        SleeplessVillage x = Due.village("k1 9 0 0;" + "p0 0 0 0;".repeat(6));
        for (int p = 0; p < 6; p++) {
            x.hour((2 << p) - 1, false);
            due.is("share(" + p + ") of the latest", 1000 / ((p + 1) * (p + 2) / 2), x.share(p));
        }
        // 6, 5, 4, 3, 2, 1 of 21
        due.are("share(0 .. 5)", Due.row(285, 238, 190, 142, 95, 47), x.share(0), x.share(1), x.share(2), x.share(3), x.share(4), x.share(5));
        SleeplessVillage one = Due.village("k1 0 9 0;p0 0 0 0;p0 0 0 0;s0;");
        one.hour(0, false);
        one.hour(1, false);
        due.are("by HOURS alone, where nothing is paid", Due.row(1000, 0, 0), one.share(0), one.share(1), one.paid(0));
        for (int h = 0; h < 300; h++) one.hour(1, false);
        one.hour(2, false);
        due.are("1 of 302", Due.row(996, 3), one.share(0), one.share(1));
    }

    private static void paidBounds() {
        due.sentence("Promise 19: PAID. UNKNOWN; his part of it (times his HOURS, / those of all, cut)");
        for (int p : Due.row(-1, 3, 5, 6, LEAST, MOST)) due.leaves("paid(" + p + ")", UNKNOWN, Busy::village, x -> x.paid(p));
        due.leaves("paid(0), no contract", UNKNOWN, Busy::withoutContract, x -> x.paid(0));
        SleeplessVillage x = Due.village("k1 10 0 0;p0 0 0 0;p0 0 0 0;p0 0 0 0;");
        due.are("ahead of any hour", Due.row(0, 0, 0), x.paid(0), x.paid(1), x.paid(2));
        x.hour(7, false);
        due.are("10 by three", Due.row(3, 3, 3), x.paid(0), x.paid(1), x.paid(2));
        x.hour(1, false);
        due.are("20 by 2, 1, 1 of 4", Due.row(10, 5, 5), x.paid(0), x.paid(1), x.paid(2));
        x.hour(3, false);
        due.are("30 by 3, 2, 1 of 6", Due.row(15, 10, 5), x.paid(0), x.paid(1), x.paid(2));
        SleeplessVillage many = Due.village("k1 99 0 0;p0 0 0 0;p0 0 0 0;p0 0 0 0;");
        for (int h = 0; h < 30; h++) many.hour(7, false);
        // by the thousandths that share() answers it would be 333 of them, 989
        due.are("2970 by three", Due.row(990, 990, 990), many.paid(0), many.paid(1), many.paid(2));
    }

    private static void paidAtNought() {
        due.sentence("SHARES: of WOOL less FINES (0 at least)");
        due.is("5 less 4", 1, paidOne(5, 4));
        due.is("5 less 5", 0, paidOne(5, 5));
        due.is("5 less 6", 0, paidOne(5, 6));
        due.is("0 less 99", 0, paidOne(0, 99));
        due.is("99 less 0", 99, paidOne(99, 0));
        SleeplessVillage x = Due.village("k1 99 0 0;" + "p0 0 0 0;".repeat(6));
        for (int i = 0; i < 200; i++) x.drift(60);
        int all = 0;
        for (int p = 0; p < 6; p++) all += x.watcher(p, 4);
        for (int p = 0; p < 6; p++) {
            BigInteger part = BigInteger.valueOf(999999).multiply(BigInteger.valueOf(x.watcher(p, 4))).divide(BigInteger.valueOf(all));
            due.is("paid(" + p + ") of 999999, thousands of hours", part.longValueExact(), x.paid(p));
        }
    }

    /** Watcher 0 watches an hour, the other nods and his sleeper sits up. */
    private static int paidOne(int wool, int fine) {
        SleeplessVillage x = Due.village("k1 " + wool + " " + fine + " 0;p0 0 0 0;p1 0 0 0;s2;");
        x.hour(3, false);
        return x.paid(0);
    }

    private static void blinkBounds() {
        due.sentence("Promise 20: BLINK. UNKNOWN, OUTSIDE (q 0 .. 100); n HOURS (0 .. 60)");
        for (int p : Due.row(-1, 3, 5, 6, LEAST, MOST)) due.leaves("blink(" + p + ", 0, 0)", UNKNOWN, Busy::village, x -> x.blink(p, 0, 0));
        for (int n : Due.row(-1, 61, LEAST, MOST)) due.leaves("blink(2, " + n + ", 0)", OUTSIDE, Busy::village, x -> x.blink(2, n, 0));
        for (int q : Due.row(-1, 101, LEAST, MOST)) due.leaves("blink(2, 0, " + q + ")", OUTSIDE, Busy::village, x -> x.blink(2, 0, q));
        due.leaves("blink(0, 0, 0), no contract", UNKNOWN, Busy::withoutContract, x -> x.blink(0, 0, 0));
        SleeplessVillage x = night(1, "p0 0 0 0;");
        due.are("blink(0, 0 .. 60, 0)", Due.row(BILLION, BILLION, BILLION), x.blink(0, 0, 0), x.blink(0, 1, 0), x.blink(0, 60, 0));
        due.are("blink(0, 0 .. 60, 100)", Due.row(BILLION, 0, 0), x.blink(0, 0, 100), x.blink(0, 1, 100), x.blink(0, 60, 100));
        due.are("blink(0, 1, 1 .. 99)", Due.row(990000000, 500000000, 10000000), x.blink(0, 1, 1), x.blink(0, 1, 50), x.blink(0, 1, 99));
    }

    private static void blinkHundredAtMost() {
        due.sentence("BLINK: by q of a hundred and TIRED / 10 (100 at most) each");
        due.are("tired 9, 10, 19, 20", Due.row(BILLION, 990000000, 990000000, 980000000), blinkOnce(9, 0), blinkOnce(10, 0), blinkOnce(19, 0),
            blinkOnce(20, 0));
        due.are("tired 99 by q 90, 91, 92, 100", Due.row(10000000, 0, 0, 0), blinkOnce(99, 90), blinkOnce(99, 91), blinkOnce(99, 92), blinkOnce(99, 100));
        SleeplessVillage x = tiredOut("k1 0 0 0;p99 30 0 99;");
        due.are("tired 199 by q 0, 80, 81, 82, 100", Due.row(810000000, 10000000, 0, 0, 0), x.blink(0, 1, 0), x.blink(0, 1, 80), x.blink(0, 1, 81),
            x.blink(0, 1, 82), x.blink(0, 1, 100));
        // were it above 100, it would turn back in a second hour
        due.are("twice", Due.row(0, 0), x.blink(0, 2, 82), x.blink(0, 2, 100));
        due.is("TIRED as now, in each hour", 656100000, x.blink(0, 2, 0));
    }

    private static int blinkOnce(int tired, int q) {
        return night(1, "p" + tired + " 30 0 0;").blink(0, 1, q);
    }

    private static void blinkCut() {
        due.sentence("BLINK: a BILLION times (100 less that) / 100 each (cut)");
        for (int q = 0; q <= 100; q++) {
            SleeplessVillage x = night(1, "p0 0 0 0;");
            BigInteger odds = BigInteger.valueOf(BILLION);
            for (int n = 0; n <= 60; n++) {
                if (n == 1 || n == 5 || n == 6 || n == 59 || n == 60) due.is("blink(0, " + n + ", " + q + ")", odds.longValueExact(), x.blink(0, n, q));
                odds = odds.multiply(BigInteger.valueOf(100 - q)).divide(BigInteger.valueOf(100));
            }
        }
        // 950990049.9 is cut ahead of the sixth hour: uncut, that would come to 941480149
        due.is("blink(0, 6, 1)", 941480148, night(1, "p0 0 0 0;").blink(0, 6, 1));
    }
}
