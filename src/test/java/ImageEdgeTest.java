import java.math.BigInteger;

/** Promises 27 to 29 at their bounds: the seed and how it wraps around, what is drawn by it, the two images. */
public final class ImageEdgeTest {
    private static final int UNKNOWN = SleeplessVillage.UNKNOWN, OUTSIDE = SleeplessVillage.OUTSIDE, NOT = SleeplessVillage.NOT;
    private static final int LEAST = Integer.MIN_VALUE, MOST = Integer.MAX_VALUE;
    private static final int[] SEEDS = {0, 1, 2, 65535, 65536, 12345, 1103515245, 1 << 30, (1 << 30) - 1, MOST - 1, MOST};
    private static final Due due = new Due("ImageEdgeTest");

    public static void main(String[] args) {
        seedBounds();
        seedWrapsAround();
        drawsOfWatchers();
        drawsInTurn();
        keepBounds();
        keepLeavesAll();
        keepAnew();
        goBackBounds();
        goBackNotKept();
        goBackToAll();
        goBackLeavesTheRest();
        nothingCanBeUndone();
        due.close();
    }

    private static void seedBounds() {
        due.sentence("Promise 27: THE SEED becomes v (0 .. 2147483647): what it was. OUTSIDE; THE SEED (0 at first)");
        for (int v : Due.row(-1, -2, LEAST, LEAST + 1)) due.leaves("seed(" + v + ")", OUTSIDE, Busy::village, x -> x.seed(v));
        due.leaves("seed(-1), no contract", OUTSIDE, Busy::withoutContract, x -> x.seed(-1));
        SleeplessVillage x = new SleeplessVillage();
        due.are("seed() of the greatest, 0, 1, the greatest but one", Due.row(0, MOST, 0, 1, MOST - 1), x.seed(MOST), x.seed(0), x.seed(1),
            x.seed(MOST - 1), x.seed(0));
    }

    private static BigInteger next(BigInteger seed) {
        return seed.multiply(BigInteger.valueOf(1103515245)).add(BigInteger.valueOf(12345)).mod(BigInteger.TWO.pow(31));
    }

    private static int drawn(BigInteger seed, int n) {
        return seed.divide(BigInteger.valueOf(65536)).mod(BigInteger.valueOf(n)).intValueExact();
    }

    private static void seedWrapsAround() {
        due.sentence("each DRAW it becomes it times 1103515245 and 12345, left over by 2 to the 31");
        for (int from : SEEDS) {
            SleeplessVillage x = Due.village("k1 0 0 0;p0 0 0 0;");
            x.seed(from);
            BigInteger seed = BigInteger.valueOf(from);
            for (int hours : Due.row(1, 1, 60)) {
                x.drift(hours);
                for (int i = 0; i < 2 * hours; i++) seed = next(seed);
                int got = x.seed(0);
                due.is("the seed behind drift(" + hours + ") from " + from, seed.longValueExact(), got);
                x.seed(got);
            }
        }
        SleeplessVillage x = Due.village("k1 0 0 0;");
        x.seed(MOST);
        x.drift(1);
        // the greatest is -1 by 2 to the 31: it becomes 1043980748 and that 1043980748 times 1103515245 and 12345
        due.is("two draws from the greatest", next(BigInteger.valueOf(1043980748)).longValueExact(), x.seed(0));
    }

    /** Each watcher tells what was drawn: 45 has rested, 57 has watched, 37 has watched with a bell. */
    private static void drawsOfWatchers() {
        due.sentence("the DRAW of n is it / 65536, left over by n: a DRAW of 2 to the number of WATCHERS watches (a SET), a DRAW of 3: on 0 with a BELL");
        for (int count = 0; count <= 6; count++) {
            for (int from : SEEDS) {
                SleeplessVillage x = Due.village("k1 0 0 20;" + "p50 7 5 99;".repeat(count));
                x.seed(from);
                x.drift(1);
                BigInteger first = next(BigInteger.valueOf(from)), second = next(first);
                int set = drawn(first, 1 << count);
                int watched = drawn(second, 3) == 0 ? 37 : 57;
                for (int p = 0; p < count; p++) {
                    due.is("tired of " + p + " of " + count + " by seed " + from, (set >> p & 1) == 0 ? 45 : watched, x.watcher(p, 0));
                }
                due.is("not watched, " + count + " by seed " + from, set == 0 ? 1 : 0, x.told(12));
            }
        }
    }

    private static void drawsInTurn() {
        due.sentence("n HOURS: in each a DRAW");
        String text = "k3 9 8 7;p10 9 4 40;p20 7 5 50;p30 5 6 60;s1;s6;s0;";
        SleeplessVillage at = Due.village(text), once = Due.village(text), by = Due.village(text);
        at.drift(60);
        BigInteger seed = BigInteger.ZERO;
        for (int h = 0; h < 60; h++) {
            once.drift(1);
            BigInteger second = next(next(seed));
            by.hour(drawn(next(seed), 8), drawn(second, 3) == 0);
            seed = second;
        }
        by.seed(seed.intValueExact());
        for (int what = 7; what <= 13; what++) due.are("told(" + what + ")", Due.row(by.told(what), by.told(what)), at.told(what), once.told(what));
        for (int p = 0; p < 3; p++) {
            due.are("tired of " + p, Due.row(by.watcher(p, 0), by.watcher(p, 0)), at.watcher(p, 0), once.watcher(p, 0));
            due.are("hours of " + p, Due.row(by.watcher(p, 4), by.watcher(p, 4)), at.watcher(p, 4), once.watcher(p, 4));
        }
        int want = by.seed(0);
        due.are("the seed", Due.row(want, want), at.seed(0), once.seed(0));
    }

    private static void keepBounds() {
        due.sentence("Promise 28: 1. UNKNOWN; IMAGES 0, 1");
        for (int i : Due.row(-1, 2, 3, LEAST, MOST)) {
            due.leaves("keep(" + i + ")", UNKNOWN, Busy::village, x -> x.keep(i));
            due.leaves("keep(" + i + "), no contract", UNKNOWN, Busy::withoutContract, x -> x.keep(i));
        }
        for (int i = 0; i <= 1; i++) {
            due.is("keep(" + i + ")", 1, Busy.village().keep(i));
            due.is("keep(" + i + "), no contract", 1, Busy.withoutContract().keep(i));
            due.is("keep(" + i + "), new", 1, new SleeplessVillage().keep(i));
        }
    }

    private static int[] shown(SleeplessVillage x) {
        int[] answers = new int[16 + 15];
        for (int what = 0; what < 16; what++) answers[what] = x.told(what);
        for (int i = 0; i < 15; i++) answers[16 + i] = x.watcher(i / 5, i % 5);
        return answers;
    }

    private static void keepLeavesAll() {
        due.sentence("Promise 28: IMAGE i becomes what is so");
        for (int i = 0; i <= 1; i++) {
            SleeplessVillage x = Busy.village();
            int[] before = shown(x);
            x.keep(i);
            due.are("all but what can be undone behind keep(" + i + ")", before, shown(x));
            due.is("what can be undone behind keep(" + i + ")", 0, x.told(16));
        }
    }

    private static void keepAnew() {
        due.sentence("IMAGES 0, 1: each by itself, the latest that was kept");
        SleeplessVillage x = Due.village("k1 0 0 0;p0 1 0 99;");
        x.keep(0);
        x.hour(1, false);
        x.keep(1);
        x.hour(1, false);
        due.are("goBack(0), hours", Due.row(1, 0), x.goBack(0), x.told(7));
        due.are("goBack(1), hours", Due.row(1, 1), x.goBack(1), x.told(7));
        x.rest(5);
        x.keep(0);
        x.rest(5);
        due.are("goBack(0) kept anew, hours", Due.row(1, 6), x.goBack(0), x.told(7));
        due.are("goBack(1) as it was, hours", Due.row(1, 1), x.goBack(1), x.told(7));
        x.hour(1, false);
        due.are("goBack(1) twice, hours", Due.row(1, 1), x.goBack(1), x.told(7));
    }

    private static void goBackBounds() {
        due.sentence("Promise 29: 1. UNKNOWN");
        for (int i : Due.row(-1, 2, 3, LEAST, MOST)) {
            due.leaves("goBack(" + i + ")", UNKNOWN, Busy::village, x -> x.goBack(i));
            due.leaves("goBack(" + i + "), no contract", UNKNOWN, Busy::withoutContract, x -> x.goBack(i));
        }
        due.are("goBack(0), goBack(1)", Due.row(1, 1), Busy.village().goBack(0), Busy.village().goBack(1));
    }

    private static void goBackNotKept() {
        due.sentence("Promise 29: NOT: it was not kept");
        for (int i = 0; i <= 1; i++) {
            int image = i;
            due.leaves("goBack(" + i + "), none kept", NOT, Busy::withoutImages, x -> x.goBack(image));
            due.leaves("goBack(" + i + "), new", NOT, SleeplessVillage::new, x -> x.goBack(image));
            due.leaves("goBack(" + i + "), the other kept", NOT, () -> onlyKept(1 - image), x -> x.goBack(image));
            due.is("goBack(" + i + "), that one kept", 1, onlyKept(i).goBack(i));
        }
        due.leaves("goBack(0), no contract, the other kept", NOT, Busy::withoutContract, x -> x.goBack(0));
        due.is("goBack(1), no contract, kept", 1, Busy.withoutContract().goBack(1));
        SleeplessVillage x = Busy.withoutText();
        Due.feed(x, "k7");
        x.contract();
        due.is("goBack(0) behind a fault", 1, x.goBack(0));
        Due.feed(x, Busy.THREE);
        x.contract();
        due.are("goBack(0), goBack(1) behind another contract", Due.row(NOT, NOT), x.goBack(0), x.goBack(1));
    }

    private static SleeplessVillage onlyKept(int i) {
        SleeplessVillage x = Busy.withoutImages();
        x.keep(i);
        x.hour(7, false);
        return x;
    }

    private static void goBackToAll() {
        due.sentence("IMAGES 0, 1 keep all of section 2, THE SEED; Promise 29: What is so becomes IMAGE i");
        for (int i = 0; i <= 1; i++) {
            SleeplessVillage x = Busy.village(), y = Busy.village();
            x.keep(i);
            y.keep(i);
            y.hour(5, false);
            y.hour(0, true);
            y.coffee(1);
            y.coffee(0);
            y.rest(7);
            y.drift(9);
            y.seed(MOST);
            y.goBack(i);
            due.are("all behind goBack(" + i + ")", Whole.of(x), Whole.of(y));
        }
    }

    private static void goBackLeavesTheRest() {
        due.sentence("IMAGES 0, 1 keep all of section 2, THE SEED: nothing else");
        SleeplessVillage x = Busy.village();
        x.keep(0);
        x.see(0, true);
        x.write(2, 1);
        x.feed('0');
        x.goBack(0);
        due.are("letters, what is seen, the book", Due.row(11, 3, 3), x.told(6), x.told(14), x.told(15));
        x.tear();
        x.goBack(0);
        due.are("what is seen, the book are not brought back", Due.row(0, 0), x.told(14), x.told(15));
    }

    private static void nothingCanBeUndone() {
        due.sentence("Promises 28, 29: (nothing can be undone then)");
        SleeplessVillage x = Busy.village();
        due.is("what can be undone", 6, x.told(16));
        x.keep(1);
        due.are("behind keep(1)", Due.row(0, NOT), x.told(16), x.undo());
        x.hour(7, false);
        x.hour(7, false);
        due.are("behind two hours", Due.row(2, 1), x.told(16), x.undo());
        x.goBack(1);
        due.are("behind goBack(1)", Due.row(0, NOT), x.told(16), x.undo());
        x.rest(1);
        due.are("behind rest", Due.row(1, 0), x.told(16), x.undo());
        due.is("hours", 11, x.told(7));
        for (int h = 0; h < 25; h++) x.hour(1, false);
        due.is("goBack(2)", UNKNOWN, x.goBack(2));
        due.is("keep(2)", UNKNOWN, x.keep(2));
        due.is("a refusal leaves what can be undone", 20, x.told(16));
    }
}
