/** Promises 27 to 29: the seed, the images. */
public final class ImagesTest {
    private static final int UNKNOWN = SleeplessVillage.UNKNOWN, OUTSIDE = SleeplessVillage.OUTSIDE,
        NOT = SleeplessVillage.NOT;
    private static final String THREE = Busy.THREE;
    private static final Due due = new Due("ImagesTest");

    public static void main(String[] args) {
        promise27Seed();
        promise28Keep();
        promise29GoBack();
        promise29Refusals();
        promise29WithoutContract();
        due.close();
    }

    private static void promise27Seed() {
        SleeplessVillage x = new SleeplessVillage();
        due.is("seed(-1)", OUTSIDE, x.seed(-1));
        due.is("seed(-2147483648)", OUTSIDE, x.seed(Integer.MIN_VALUE));
        due.is("seed(2147483647)", 0, x.seed(Integer.MAX_VALUE));
        due.is("seed(0)", Integer.MAX_VALUE, x.seed(0));
        due.is("seed(5)", 0, x.seed(5));
        x = Due.village(THREE);
        x.seed(Integer.MAX_VALUE);
        x.drift(1);
        long seed = Integer.MAX_VALUE;
        for (int i = 0; i < 2; i++) seed = (seed * 1103515245L + 12345L) % 2147483648L;
        due.is("the seed behind two draws", seed, x.seed(0));
    }

    private static int[] all(SleeplessVillage x) {
        int[] answers = new int[7 + 6];
        for (int what = 7; what <= 13; what++) answers[what - 7] = x.told(what);
        for (int p = 0; p < 3; p++) {
            answers[7 + p] = x.watcher(p, 0);
            answers[10 + p] = x.watcher(p, 4);
        }
        return answers;
    }

    private static SleeplessVillage busy() {
        SleeplessVillage x = Due.village(THREE);
        x.seed(7);
        x.drift(4);
        x.hour(4, false);
        x.hour(4, false);
        x.hour(5, true);
        x.coffee(2);
        return x;
    }

    private static void promise28Keep() {
        SleeplessVillage x = busy();
        int[] before = all(x);
        due.is("what can be undone", 5, x.told(16));
        due.is("keep(2)", UNKNOWN, x.keep(2));
        due.is("keep(-1)", UNKNOWN, x.keep(-1));
        due.is("what can be undone behind a refusal", 5, x.told(16));
        due.is("keep(1)", 1, x.keep(1));
        due.are("all is as it was", before, all(x));
        due.is("nothing can be undone", NOT, x.undo());
        x.hour(7, false);
        due.is("but what comes behind", 0, x.undo());
    }

    private static void promise29GoBack() {
        SleeplessVillage x = busy();
        x.see(0, true);
        x.keep(0);
        int[] first = all(x);
        int seed = x.seed(0);
        x.seed(seed);
        x.drift(20);
        x.hour(1, false);
        x.write(0, 5);
        x.keep(1);
        int[] second = all(x);
        x.drift(9);
        x.seed(99);
        due.is("goBack(0)", 1, x.goBack(0));
        due.are("as the first image", first, all(x));
        due.is("its seed", seed, x.seed(1));
        due.is("nothing can be undone", NOT, x.undo());
        due.are("what is seen, the book stay", Due.row(1, 1), x.told(14), x.told(15));
        x.hour(7, true);
        due.is("goBack(1)", 1, x.goBack(1));
        due.are("as the second image", second, all(x));
        x.rest(60);
        due.is("goBack(0) again", 1, x.goBack(0));
        due.are("as the first image still", first, all(x));
        x.rest(1);
        x.keep(0);
        int[] third = all(x);
        x.drift(3);
        x.goBack(0);
        due.are("an image kept anew", third, all(x));
    }

    private static void promise29Refusals() {
        SleeplessVillage x = busy();
        due.is("goBack(2)", UNKNOWN, x.goBack(2));
        due.is("goBack(-1)", UNKNOWN, x.goBack(-1));
        due.is("goBack(0)", NOT, x.goBack(0));
        x.keep(0);
        due.is("goBack(1)", NOT, x.goBack(1));
        x.hour(7, false);
        due.is("goBack(1)", NOT, x.goBack(1));
        due.is("a refusal leaves what can be undone", 0, x.undo());
    }

    private static void promise29WithoutContract() {
        SleeplessVillage x = new SleeplessVillage();
        x.seed(8);
        due.is("keep(0)", 1, x.keep(0));
        x.seed(9);
        due.is("goBack(0)", 1, x.goBack(0));
        due.is("the seed", 8, x.seed(0));
        due.is("contract() of no text", 0, x.contract());
        due.is("images are gone", NOT, x.goBack(0));
    }
}
