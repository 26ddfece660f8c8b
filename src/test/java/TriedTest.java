/** Promises 13 to 20: what is tried from now; nothing changes by it. */
public final class TriedTest {
    private static final int NONE = SleeplessVillage.NONE, UNKNOWN = SleeplessVillage.UNKNOWN,
        OUTSIDE = SleeplessVillage.OUTSIDE, NOT = SleeplessVillage.NOT;
    private static final String THREE = Busy.THREE;
    private static final Due due = new Due("TriedTest");

    public static void main(String[] args) {
        withoutContract();
        promise13Watches();
        promise13FirstOfLikeOnes();
        promise13None();
        promise14BellHour();
        promise15CoffeeFor();
        promise16Nights();
        promise17Hold();
        promise18Share();
        promise19Paid();
        promise20Blink();
        nothingChanges();
        due.close();
    }

    private static void withoutContract() {
        SleeplessVillage x = new SleeplessVillage();
        due.is("watches(-1)", NOT, x.watches(-1));
        due.is("watches(0)", NOT, x.watches(0));
        due.is("watches(99)", NOT, x.watches(99));
        due.is("bellHour(0)", NOT, x.bellHour(0));
        due.is("bellHour(2)", OUTSIDE, x.bellHour(2));
        due.is("coffeeFor()", NOT, x.coffeeFor());
        due.is("nights(0)", UNKNOWN, x.nights(0));
        due.is("hold()", NOT, x.hold());
        due.is("share(0)", UNKNOWN, x.share(0));
        due.is("paid(0)", UNKNOWN, x.paid(0));
        due.is("blink(0, 61, 0)", UNKNOWN, x.blink(0, 61, 0));
    }

    private static void promise13Watches() {
        SleeplessVillage x = Due.village(THREE);
        due.watches("of three", x, 18, 1, 0, 1, NONE);
        due.is("watches(-2)", NONE, x.watches(-2));
        due.is("watches(-2147483648)", NONE, x.watches(Integer.MIN_VALUE));
        due.is("watches(2147483647)", NONE, x.watches(Integer.MAX_VALUE));
        // one has to go on though he ends as the most tired: 5, 10, 15
        due.watches("of one", Due.village("k3 0 0 0;p0 5 1 15;"), 15, 0, 0, 0);
        // it is the end that counts, not what was between: the first is 9 in hour 0, 0 at the end
        due.watches("by the end", Due.village("k2 0 0 0;p0 9 9 9;p4 2 0 7;"), 6, 0, 1);
        // one who can't watch counts with his tired all the same
        due.watches("beside a tired one", Due.village("k2 0 0 0;p90 1 4 80;p0 1 1 9;"), 82, 1, 1);
    }

    private static void promise13FirstOfLikeOnes() {
        due.watches("of like ones", Due.village("k4 0 0 0;p0 0 0 0;p0 0 0 0;p0 0 0 0;"), 0, 0, 0, 0, 0, NONE);
        due.watches("by the least end", Due.village("k2 0 0 0;p0 2 9 9;p0 2 9 9;"), 2, 0, 1);
        due.watches("in turn", Due.village("k2 0 0 0;p0 2 1 9;p0 2 1 9;"), 2, 0, 1);
        due.watches("where the first has to wait", Due.village("k2 0 0 0;p9 1 9 9;p0 9 9 9;"), 1, 1, 0);
        due.watches("of six", Due.village("k6 0 0 0;p0 1 0 9;p0 1 0 9;p0 1 0 9;p0 1 0 9;p0 1 0 9;p0 1 0 9;"), 1, 0, 1, 2, 3, 4, 5);
    }

    private static void promise13None() {
        SleeplessVillage fewer = Due.village("k1 0 0 0;p1 1 0 99;p99 1 0 99;");
        Due.feed(fewer, "k1 0 0 0;p1 1 0 99;");
        fewer.contract();
        due.watches("where there were more ahead of this contract", fewer, 2, 0);
        due.watches("without watchers", Due.village("k2 0 0 0;"), NONE, NONE, NONE);
        due.watches("of one who nods in the last hour", Due.village("k3 0 0 0;p0 5 1 14;"), NONE, NONE, NONE, NONE);
        due.watches("of one who may be at N", Due.village("k3 0 0 0;p0 5 1 15;"), 15, 0, 0, 0);
        SleeplessVillage x = Due.village("k1 0 0 0;p99 30 0 99;p0 1 1 99;");
        for (int h = 0; h < 9; h++) x.hour(1, false);
        due.watches("beside one who can't be more tired", x, 199, 1);
        x = Due.village("k1 0 0 0;p0 30 1 99;");
        for (int h = 0; h < 9; h++) x.hour(1, false);
        due.watches("of one who is tired out", x, NONE, NONE);
        x.rest(60);
        due.watches("of one who is rested", x, NONE, NONE);
        x.rest(60);
        x.rest(30);
        due.watches("of one who is rested well", x, 79, 0);
    }

    private static void promise14BellHour() {
        SleeplessVillage x = Due.village(THREE);
        due.is("bellHour(0)", 0, x.bellHour(0));
        due.is("bellHour(1)", 1, x.bellHour(1));
        due.is("bellHour(2)", OUTSIDE, x.bellHour(2));
        due.is("bellHour(-1)", OUTSIDE, x.bellHour(-1));
        x = Due.village("k4 0 0 9;");
        due.are("without watchers", Due.row(0, 0), x.bellHour(0), x.bellHour(1));
        // from 0 on a bell is lost in hour 0; 10, 20 less 10 and 10 more, 30, 40: never above 39 but at last
        x = Due.village("k4 0 0 10;p0 10 0 30;");
        due.are("a bell too early is lost", Due.row(1, 0), x.bellHour(0), x.bellHour(1));
        x = Due.village("k3 0 0 10;p0 10 0 9;");
        // without a bell 10, 20, 30 all nod; with one in hour 1: 10, 10, 20: all nod still
        due.are("of like ones the first", Due.row(0, 3), x.bellHour(0), x.bellHour(1));
        x = Due.village("k3 0 0 20;p0 5 0 9;p0 15 0 34;");
        // hour 0: 5 10 15, 15 30 45: 3 nods; hour 1: 5 5 10, 15 15 30: 1; hour 2: 5 10 5, 15 30 25: 1
        due.are("fewest together", Due.row(1, 1), x.bellHour(0), x.bellHour(1));
    }

    private static void promise15CoffeeFor() {
        due.is("coffeeFor() without watchers", NONE, Due.village("k2 0 0 0;").coffeeFor());
        due.is("coffeeFor() where it helps nobody", 0, Due.village("k2 0 0 0;p0 1 0 99;p0 1 0 99;").coffeeFor());
        due.is("coffeeFor() of three", 2, Due.village(THREE).coffeeFor());
        SleeplessVillage x = Due.village("k2 0 0 0;p50 1 0 0;p20 20 0 39;p60 1 0 60;");
        x.watches(0);
        // who is 50 nods with it too; 20 is 0: 1 nod less; 60 is 30: 2 nods less
        due.is("coffeeFor() where it helps most", 2, x.coffeeFor());
        x.coffee(2);
        due.is("coffeeFor() of who had it too", 1, x.coffeeFor());
        x = Due.village("k2 0 0 0;p99 1 0 99;p40 1 0 41;");
        // 100 and 101 nod, 42 nods once: the first is better, though he had it
        due.is("coffeeFor() now", 0, x.coffeeFor());
        x.coffee(0);
        due.is("coffeeFor() behind it", 1, x.coffeeFor());
        for (int h = 0; h < 30; h++) x.hour(1, false);
        due.is("coffeeFor(), whether he had it or not", 0, x.coffeeFor());
    }

    private static void promise16Nights() {
        due.is("nights(1)", UNKNOWN, Due.village("k3 0 0 0;p0 1 0 99;").nights(1));
        due.is("nights(-1)", UNKNOWN, Due.village("k3 0 0 0;p0 1 0 99;").nights(-1));
        due.is("he nods at once", 0, nightsOf("k3 0 0 0;p5 0 0 4;"));
        due.is("in none of 100", NONE, nightsOf("k3 0 0 0;p5 0 0 5;"));
        due.is("in the last hour of the first", 0, nightsOf("k3 0 0 0;p0 1 0 2;"));
        due.is("in the first hour of the second", 1, nightsOf("k3 0 0 0;p0 1 0 3;"));
        due.is("in the last of 100", 99, nightsOf("k1 0 0 0;p0 1 0 99;"));
        due.is("a night of one hour, sooner", 98, nightsOf("k1 0 0 0;p1 1 0 99;"));
        due.is("six hours a night", 16, nightsOf("k6 0 0 0;p0 1 0 99;"));
        SleeplessVillage x = Due.village("k3 0 0 0;p0 1 0 3;");
        x.hour(0, false);
        x.hour(0, false);
        due.is("nights are counted from now", 1, x.nights(0));
        x.hour(1, false);
        due.is("by how tired he is now", 0, x.nights(0));
    }

    private static int nightsOf(String text) {
        return Due.village(text).nights(0);
    }

    private static void promise17Hold() {
        due.is("hold() without watchers", NONE, Due.village("k2 0 0 0;").hold());
        due.is("hold() of three", NONE, Due.village(THREE).hold());
        due.is("hold() by the only one", 1, Due.village("k1 0 0 0;p0 1 0 9;").hold());
        due.is("hold() of an only hour", NONE, Due.village("k1 0 0 0;p0 1 0 0;").hold());
        due.is("hold() by the least", 1, Due.village("k2 0 0 0;p0 1 0 9;p0 1 0 9;").hold());
        due.is("hold() by the second", 2, Due.village("k2 0 0 0;p9 1 0 9;p0 1 0 9;").hold());
        due.is("hold() at N", 4, Due.village("k6 0 0 0;p0 5 0 29;p0 6 0 30;p0 5 0 30;").hold());
        due.is("hold() of those who all nod at last", NONE, Due.village("k6 0 0 0;p0 5 0 29;p0 6 0 30;").hold());
        SleeplessVillage x = Due.village("k2 0 0 0;p0 5 5 9;p0 5 5 10;");
        due.is("hold()", 2, x.hold());
        x.hour(2, false);
        due.is("hold() behind an hour", NONE, x.hold());
        x.rest(1);
        due.is("hold() behind rest", 2, x.hold());
    }

    private static void promise18Share() {
        SleeplessVillage x = Due.village("k3 10 99 0;p0 0 0 9;p0 0 0 9;p9 0 0 0;s4;");
        due.are("share(0 .. 3), nobody has watched", Due.row(0, 0, 0, UNKNOWN), x.share(0), x.share(1), x.share(2), x.share(3));
        due.is("share(-1)", UNKNOWN, x.share(-1));
        x.hour(4, false);
        due.are("share(0 .. 2), all nodded", Due.row(0, 0, 0), x.share(0), x.share(1), x.share(2));
        x.hour(1, false);
        due.are("share(0 .. 2), one has", Due.row(1000, 0, 0), x.share(0), x.share(1), x.share(2));
        x.hour(7, false);
        due.are("share(0 .. 2), cut", Due.row(666, 333, 0), x.share(0), x.share(1), x.share(2));
        due.is("it does not hang on what is paid", 0, x.paid(0));
    }

    private static void promise19Paid() {
        SleeplessVillage x = Due.village("k3 10 3 0;p0 0 0 9;p0 0 0 9;p9 0 0 0;s4;");
        due.are("paid(0 .. 3)", Due.row(0, 0, 0, UNKNOWN), x.paid(0), x.paid(1), x.paid(2), x.paid(3));
        x.hour(5, false);
        due.are("10 less 3", Due.row(7, 0, 0), x.paid(0), x.paid(1), x.paid(2));
        x.hour(3, false);
        due.are("17 by 2 and 1, cut", Due.row(11, 5, 0), x.paid(0), x.paid(1), x.paid(2));
        for (int h = 0; h < 6; h++) x.hour(0, false);
        due.are("less than nothing is nothing", Due.row(0, 0, 0), x.paid(0), x.paid(1), x.paid(2));
        x = Due.village("k3 1 9 0;p0 0 0 9;p9 0 0 0;s2;");
        x.hour(3, false);
        due.is("less than nothing is nothing to the only one", 0, x.paid(0));
        x = Due.village("k3 10 3 0;p0 0 0 9;p0 0 0 9;p9 0 0 0;s4;");
        due.is("paid(-1)", UNKNOWN, x.paid(-1));
        x = Due.village("k1 99 0 0;p0 0 0 9;");
        for (int i = 0; i < 400; i++) x.drift(60);
        due.is("all of the most wool to the only one", 999999, x.paid(0));
        due.is("his share", 1000, x.share(0));
    }

    private static void promise20Blink() {
        SleeplessVillage x = Due.village("k3 10 7 5;p10 8 4 30;p99 12 6 25;p9 30 10 45;");
        due.is("blink(3, 0, 0)", UNKNOWN, x.blink(3, 0, 0));
        due.is("blink(3, -1, 0)", UNKNOWN, x.blink(3, -1, 0));
        due.is("blink(0, -1, 0)", OUTSIDE, x.blink(0, -1, 0));
        due.is("blink(0, 61, 0)", OUTSIDE, x.blink(0, 61, 0));
        due.is("blink(0, 1, -1)", OUTSIDE, x.blink(0, 1, -1));
        due.is("blink(0, 1, 101)", OUTSIDE, x.blink(0, 1, 101));
        due.is("blink(0, 5, 10)", 558405944, x.blink(0, 5, 10));
        due.is("blink(0, 1, 0)", 990000000, x.blink(0, 1, 0));
        due.is("blink(2, 60, 0)", 1000000000, x.blink(2, 60, 0));
        due.is("blink(0, 0, 100)", 1000000000, x.blink(0, 0, 100));
        due.is("blink(0, 1, 100)", 0, x.blink(0, 1, 100));
        due.is("blink(1, 1, 91)", 0, x.blink(1, 1, 91));
        due.is("blink(1, 1, 92)", 0, x.blink(1, 1, 92));
        due.is("blink(1, 1, 90)", 10000000, x.blink(1, 1, 90));
        due.is("blink(1, 9, 90)", 0, x.blink(1, 9, 90));
        // .99 thrice is 970299000, then 960596010, 950990049 (.9, ..), each cut
        due.is("blink(0, 4, 0)", 960596010, x.blink(0, 4, 0));
        due.is("blink(0, 5, 0)", 950990049, x.blink(0, 5, 0));
        due.is("blink(0, 6, 0)", 941480148, x.blink(0, 6, 0));
        x.hour(4, false);
        due.is("tired as now", 970000000, x.blink(2, 1, 0));
    }

    private static void nothingChanges() {
        SleeplessVillage x = Due.village(THREE);
        x.hour(7, false);
        x.coffee(0);
        int[] before = all(x);
        for (int i = -2; i < 5; i++) {
            x.watches(i);
            x.bellHour(i);
            x.nights(i);
            x.share(i);
            x.paid(i);
            x.blink(i, 5, 5);
        }
        x.coffeeFor();
        x.hold();
        due.are("all behind what was tried", before, all(x));
        due.is("what can be undone", 1, x.undo());
    }

    private static int[] all(SleeplessVillage x) {
        int[] answers = new int[17 + 15];
        for (int what = 0; what <= 16; what++) answers[what] = x.told(what);
        for (int i = 0; i < 15; i++) answers[17 + i] = x.watcher(i / 5, i % 5);
        return answers;
    }
}
