/** Promises 8 to 12: hours, coffee, rest, drift, what is undone. */
public final class DoneTest {
    private static final int UNKNOWN = SleeplessVillage.UNKNOWN, OUTSIDE = SleeplessVillage.OUTSIDE,
        NOT = SleeplessVillage.NOT;
    private static final String THREE = Busy.THREE;
    private static final Due due = new Due("DoneTest");

    public static void main(String[] args) {
        promise8Refusals();
        promise8Tired();
        promise8Bell();
        promise8SittingUp();
        promise8WoolAndFines();
        promise8MostWoolAndFines();
        promise9Coffee();
        promise9NightsOfCoffee();
        promise10Rest();
        promise11Drift();
        promise11DriftWithoutWatchers();
        promise12Undo();
        promise12MostUndone();
        due.close();
    }

    private static void promise8Refusals() {
        SleeplessVillage x = new SleeplessVillage();
        due.is("hour(0, false), no contract", NOT, x.hour(0, false));
        due.is("hour(1, false), no contract", UNKNOWN, x.hour(1, false));
        x = Due.village(THREE);
        due.is("hour(8, false)", UNKNOWN, x.hour(8, false));
        due.is("hour(-1, true)", UNKNOWN, x.hour(-1, true));
        due.is("hour(2^31 turned, true)", UNKNOWN, x.hour(Integer.MIN_VALUE, true));
        due.is("nothing came of these", 0, x.told(7) + x.told(16));
    }

    private static void promise8Tired() {
        SleeplessVillage x = Due.village("k6 1 1 0;p99 30 30 99;p20 5 30 25;p0 0 0 0;");
        due.is("hour(7)", 1, x.hour(7, false));
        due.are("tired", Due.row(129, 25, 0), tired(x));
        due.is("at N nobody nods yet, above it he does", 3, x.hour(3, false));
        due.are("tired", Due.row(159, 30, 0), tired(x));
        x.hour(1, false);
        x.hour(1, false);
        due.are("199 at most, 0 at least", Due.row(199, 0, 0), tired(x));
        due.is("above N without watching is no nod", 0, x.hour(0, false));
        due.are("rest", Due.row(169, 0, 0), tired(x));
    }

    private static int[] tired(SleeplessVillage x) {
        int[] answers = new int[x.told(4)];
        for (int p = 0; p < answers.length; p++) answers[p] = x.watcher(p, 0);
        return answers;
    }

    private static void promise8Bell() {
        SleeplessVillage x = Due.village("k6 1 1 20;p10 5 1 5;p10 5 1 9;p40 9 3 29;");
        due.is("a bell first, then more tired", 0, x.hour(5, true));
        due.are("tired", Due.row(5, 9, 29), tired(x));
        due.is("a bell is not for who rests", 2, x.hour(2, true) | x.hour(2, false));
        due.are("tired", Due.row(3, 10, 23), tired(x));
        due.is("a bell for nobody", 0, x.hour(0, true));
        due.are("tired", Due.row(2, 9, 20), tired(x));
        x = Due.village("k6 1 1 20;p99 30 1 99;");
        for (int h = 0; h < 4; h++) x.hour(1, false);
        x.hour(1, true);
        due.is("199, 20 less, 30 more", 199, x.watcher(0, 0));
        x = Due.village("k6 1 1 20;p99 10 1 99;");
        for (int h = 0; h < 10; h++) x.hour(1, false);
        due.is("199 less one at most", 199, x.watcher(0, 0));
        x.hour(1, true);
        due.is("199, 20 less, 10 more", 189, x.watcher(0, 0));
    }

    private static void promise8SittingUp() {
        // watchers 0 and 1 nod at once, 2 and 3 never
        String text = "k6 1 1 0;p9 0 0 0;p9 0 0 0;p0 0 0 9;p0 0 0 9;s0;s1;s2;s3;s4;s5;s12;";
        up(text, 0, 0, 127);
        up(text, 1, 1, 127);
        up(text, 3, 3, 127);
        up(text, 4, 0, 0);
        up(text, 5, 1, 1 << 1 | 1 << 3);
        up(text, 6, 2, 1 << 2 | 1 << 3);
        up(text, 7, 3, 1 << 1 | 1 << 2 | 1 << 3);
        up(text, 9, 1, 1 << 1 | 1 << 3 | 1 << 5);
        up(text, 15, 3, 1 << 1 | 1 << 2 | 1 << 3);
    }

    private static void up(String text, int set, int nods, int sleepers) {
        SleeplessVillage x = Due.village(text);
        due.is("hour(" + set + ")", nods, x.hour(set, false));
        due.is("told(10) behind hour(" + set + ")", nods, x.told(10));
        due.is("told(11) behind hour(" + set + ")", sleepers, x.told(11));
        due.is("told(12) behind hour(" + set + ")", (set & ~nods) == 0 ? 1 : 0, x.told(12));
        due.is("told(8) behind hour(" + set + ")", (set & ~nods) == 0 ? 0 : 1, x.told(8));
        due.is("told(9) behind hour(" + set + ")", Integer.bitCount(sleepers), x.told(9));
    }

    private static void promise8WoolAndFines() {
        SleeplessVillage x = Due.village(THREE);
        due.is("hour(7)", 0, x.hour(7, false));
        due.is("hour(7)", 4, x.hour(7, false));
        due.is("wool", 20, x.told(8));
        due.is("fines", 7, x.told(9));
        due.is("hour(4)", 4, x.hour(4, false));
        due.is("wool of an hour that is not watched", 20, x.told(8));
        due.is("fines for all", 7 + 35, x.told(9));
        due.is("hours", 3, x.told(7));
        due.is("not watched", 1, x.told(12));
    }

    private static void promise8MostWoolAndFines() {
        SleeplessVillage x = Due.village("k1 99 99 0;p0 0 0 0;s0;s0;s0;s0;s0;s0;s0;s0;");
        x.seed(3);
        for (int i = 0; i < 360; i++) x.drift(60);
        due.is("the most wool", 999999, x.told(8));
        due.is("the most fines", 999999, x.told(9));
        due.is("hour(1)", 0, x.hour(1, false));
        due.is("hour(0)", 0, x.hour(0, false));
        due.is("still the most wool", 999999, x.told(8));
        due.is("still the most fines", 999999, x.told(9));
        due.is("hours", 360 * 60 + 2, x.told(7));
        x = Due.village("k1 99 99 0;p0 0 0 0;s0;s0;s0;s0;s0;s0;s0;s0;");
        for (int i = 0; i < 400; i++) x.hour(0, false);
        due.is("fines of 400 hours", 400 * 8 * 99, x.told(9));
    }

    private static void promise9Coffee() {
        SleeplessVillage x = Due.village("k2 1 1 0;p31 1 1 9;p29 1 1 9;p30 1 1 9;");
        due.is("coffee(3)", UNKNOWN, x.coffee(3));
        due.is("coffee(-1)", UNKNOWN, x.coffee(-1));
        due.is("coffee(0)", 1, x.coffee(0));
        due.is("coffee(1)", 0, x.coffee(1));
        due.is("told(13)", 3, x.told(13));
        due.is("coffee(0) again", NOT, x.coffee(0));
        due.is("coffee(2)", 0, x.coffee(2));
        due.is("told(13)", 7, x.told(13));
        due.is("hours", 0, x.told(7));
        due.are("tired", Due.row(1, 0, 0), tired(x));
        due.is("coffee(0) without a contract", UNKNOWN, new SleeplessVillage().coffee(0));
    }

    private static void promise9NightsOfCoffee() {
        SleeplessVillage x = Due.village("k2 1 1 0;p99 30 0 99;");
        x.coffee(0);
        x.hour(1, false);
        due.is("coffee(0) in the same night", NOT, x.coffee(0));
        x.hour(1, false);
        due.is("told(13) in the next night", 0, x.told(13));
        due.is("coffee(0) in the next night", 99, x.coffee(0));
        x.rest(1);
        due.is("coffee(0) an hour later", NOT, x.coffee(0));
        x.rest(2);
        due.is("coffee(0) in the night behind", 69, x.coffee(0));
        x.rest(1);
        x.coffee(0);
        x.rest(60);
        due.is("told(13) behind whole nights", 0, x.told(13));
        x = Due.village("k1 1 1 0;p99 0 0 99;");
        due.are("nights of one hour", Due.row(69, NOT, 0, 39), x.coffee(0), x.coffee(0), x.hour(1, false), x.coffee(0));
        x = Due.village("k6 1 1 0;p99 30 0 99;");
        x.rest(4);
        x.coffee(0);
        x.rest(1);
        due.is("a night goes from hour 0 on", NOT, x.coffee(0));
        x.drift(1);
        due.is("a new one at hour 6", 0, x.told(13));
    }

    private static void promise10Rest() {
        SleeplessVillage x = new SleeplessVillage();
        due.is("rest(0), no contract", OUTSIDE, x.rest(0));
        due.is("rest(1), no contract", NOT, x.rest(1));
        x = Due.village(THREE);
        due.is("rest(0)", OUTSIDE, x.rest(0));
        due.is("rest(61)", OUTSIDE, x.rest(61));
        due.is("rest(-2147483648)", OUTSIDE, x.rest(Integer.MIN_VALUE));
        x.hour(7, false);
        x.hour(7, false);
        x.hour(4, false);
        x.hour(4, false);
        due.is("nods", 4, x.told(10));
        due.is("sitting up", 31, x.told(11));
        due.are("tired", Due.row(18, 12, 52), tired(x));
        due.is("rest(2)", 6, x.rest(2));
        due.are("tired", Due.row(10, 0, 32), tired(x));
        due.are("told(8..12)", Due.row(20, 77, 0, 0, 2), x.told(8), x.told(9), x.told(10), x.told(11), x.told(12));
        due.is("rest(60)", 66, x.rest(60));
        due.are("tired", Due.row(0, 0, 0), tired(x));
        due.is("undone at once", 5, x.undo());
        due.is("hours", 6, x.told(7));
    }

    private static void promise11Drift() {
        SleeplessVillage x = new SleeplessVillage();
        due.is("drift(61), no contract", OUTSIDE, x.drift(61));
        due.is("drift(1), no contract", NOT, x.drift(1));
        x = Due.village(THREE);
        due.is("drift(0)", OUTSIDE, x.drift(0));
        due.is("drift(61)", OUTSIDE, x.drift(61));
        x.seed(12345);
        due.is("drift(60)", 60, x.drift(60));
        SleeplessVillage y = Due.village(THREE);
        int last = 0;
        long seed = 12345;
        for (int h = 0; h < 60; h++) {
            seed = (seed * 1103515245L + 12345L) % 2147483648L;
            int set = (int) (seed / 65536 % 8);
            seed = (seed * 1103515245L + 12345L) % 2147483648L;
            last = y.hour(set, seed / 65536 % 3 == 0);
        }
        due.is("the seed behind drift(60)", seed, x.seed(0));
        due.is("nods of the latest hour", last, x.told(10));
        for (int what = 7; what <= 13; what++) due.is("told(" + what + ") behind drift(60)", y.told(what), x.told(what));
        due.are("tired", tired(y), tired(x));
        due.is("it is undone at once", 0, x.undo());
        due.is("hours", 0, x.told(7));
    }

    private static void promise11DriftWithoutWatchers() {
        SleeplessVillage x = Due.village("k1 1 2 3;s0;");
        due.is("drift(2)", 2, x.drift(2));
        long seed = 0;
        for (int i = 0; i < 4; i++) seed = (seed * 1103515245L + 12345L) % 2147483648L;
        due.is("two draws an hour", seed, x.seed(0));
        due.is("fines", 4, x.told(9));
    }

    private static void promise12Undo() {
        SleeplessVillage x = Due.village(THREE);
        due.is("undo()", NOT, x.undo());
        x.hour(7, false);
        x.hour(7, true);
        x.see(0, true);
        x.write(1, 24);
        x.coffee(1);
        x.hour(4, false);
        x.seed(9);
        x.drift(5);
        int seed = x.seed(9);
        x.seed(seed);
        x.rest(7);
        x.coffee(5);
        x.hour(99, true);
        x.rest(0);
        due.is("refused ones are not kept", 6, x.told(16));
        due.is("undo() of rest", 5, x.undo());
        due.is("undo() of drift", 4, x.undo());
        due.is("the seed stays", seed, x.seed(1));
        due.are("told(7..11) behind hour(4)", Due.row(3, 30, 0, 0, 0), x.told(7), x.told(8), x.told(9), x.told(10), x.told(11));
        due.is("undo() of hour(4)", 3, x.undo());
        due.are("told(7..13)", Due.row(2, 20, 0, 0, 0, 0, 2), x.told(7), x.told(8), x.told(9), x.told(10), x.told(11), x.told(12), x.told(13));
        due.are("tired", Due.row(21, 0, 41), tired(x));
        due.is("undo() of coffee", 2, x.undo());
        due.are("tired", Due.row(21, 19, 41), tired(x));
        due.is("told(13)", 0, x.told(13));
        due.is("undo() of hour(7, true)", 1, x.undo());
        due.are("tired", Due.row(18, 12, 43), tired(x));
        due.are("hours watched", Due.row(1, 1, 1), x.watcher(0, 4), x.watcher(1, 4), x.watcher(2, 4));
        due.is("undo() of hour(7)", 0, x.undo());
        due.are("tired", Due.row(10, 0, 40), tired(x));
        due.is("undo()", NOT, x.undo());
        due.is("what is seen stays", 1, x.told(14));
        due.is("the book stays", 1, x.told(15));
    }

    private static void promise12MostUndone() {
        SleeplessVillage x = Due.village("k1 1 0 0;p0 1 0 99;");
        for (int h = 0; h < 47; h++) x.hour(1, false);
        due.is("20 at most are kept", 20, x.told(16));
        for (int left = 19; left >= 0; left--) {
            due.is("undo()", left, x.undo());
            due.is("hours", 27 + left, x.told(7));
            due.is("tired", 27 + left, x.watcher(0, 0));
        }
        due.is("undo() of what is lost", NOT, x.undo());
        x.hour(1, false);
        due.is("it goes on", 1, x.told(16));
        due.is("undo()", 0, x.undo());
        due.is("hours", 27, x.told(7));
    }
}
