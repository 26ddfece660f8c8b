/** Promises 1 to 7: a new object, the text, its faults, what is told. */
public final class ContractTest {
    private static final int UNKNOWN = SleeplessVillage.UNKNOWN, OUTSIDE = SleeplessVillage.OUTSIDE,
        NOT = SleeplessVillage.NOT, FULL = SleeplessVillage.FULL;
    private static final Due due = new Due("ContractTest");

    public static void main(String[] args) {
        promise1NewObject();
        promise2Feed();
        promise3Contract();
        promise3WhatIsGone();
        promise3and4Faults();
        promise4Fault();
        promise5Told();
        promise6Watcher();
        promise7Sleeper();
        due.close();
    }

    private static void promise1NewObject() {
        SleeplessVillage x = new SleeplessVillage();
        for (int what = 0; what <= 16; what++) due.is("new: told(" + what + ")", 0, x.told(what));
        due.is("new: fault()", -1, x.fault());
        due.is("new: watcher(0, 0)", UNKNOWN, x.watcher(0, 0));
        due.is("new: sleeper(0)", UNKNOWN, x.sleeper(0));
        due.is("new: hour(0, false)", NOT, x.hour(0, false));
        due.is("new: hour(1, false)", UNKNOWN, x.hour(1, false));
        due.is("new: undo()", NOT, x.undo());
        due.is("new: goBack(0)", NOT, x.goBack(0));
        due.is("new: seed(5)", 0, x.seed(5));
    }

    private static void promise2Feed() {
        SleeplessVillage x = new SleeplessVillage();
        due.is("feed(-1)", OUTSIDE, x.feed(-1));
        due.is("feed(256)", OUTSIDE, x.feed(256));
        due.is("feed(0)", 1, x.feed(0));
        due.is("feed(255)", 2, x.feed(255));
        for (int i = 3; i <= 220; i++) due.is("feed() no. " + i, i, x.feed(' '));
        due.is("feed() no. 221", FULL, x.feed(' '));
        due.is("feed(256), full", OUTSIDE, x.feed(256));
        due.is("letters behind a refusal", 220, x.told(6));
        due.is("contract()", -11, x.contract());
        due.is("letters behind contract()", 0, x.told(6));
        due.is("feed() anew", 1, x.feed('k'));
    }

    private static void promise3Contract() {
        due.is("an empty text", 0, read(""));
        due.is("blanks alone", 0, read("    "));
        due.is("a night alone", 0, read("k1 0 0 0;"));
        due.is("the greatest numbers", 1, read("k6 99 99 20;p99 30 30 99;s1;"));
        due.is("the least numbers", 1, read("k1 0 0 0;p0 0 0 0;s0;"));
        due.is("blanks anywhere", 2, read("  k 3  10 7   5 ; p 1 2 3 4;p5 6 7 8 ; s 3 ;  "));
        due.is("three figures", 1, read("k003 010 007 005;p001 002 003 004;s001;"));
        due.is("sleepers ahead of watchers", 1, read("k1 0 0 0;s0;p1 1 1 1;s1;"));
        due.is("six and eight", 6, read("k1 0 0 0;" + "p1 1 1 1;".repeat(6) + "s63;".repeat(8)));
        due.is("220 letters", 0, read("k1 0 0 0;" + " ".repeat(211)));
    }

    private static int read(String text) {
        SleeplessVillage x = new SleeplessVillage();
        Due.feed(x, text);
        int answer = x.contract();
        due.is("letters left of " + text, 0, x.told(6));
        return answer;
    }

    private static void promise3WhatIsGone() {
        SleeplessVillage x = Due.village("k3 10 7 5;p10 8 4 9;s1;");
        x.seed(77);
        x.hour(1, false);
        x.hour(0, false);
        x.coffee(0);
        x.see(0, true);
        x.write(0, 4);
        x.keep(0);
        x.hour(1, false);
        Due.feed(x, "k3 10 7 5;p10 8 4 9;s1;x");
        due.is("a text with a fault", -11, x.contract());
        due.are("told(6..16) behind a fault", Due.row(0, 3, 10, 14, 0, 0, 2, 0, 1, 1, 1), toldFrom(x, 6));
        due.is("an image behind a fault", 1, x.goBack(0));
        x.hour(1, false);
        due.is("hours watched ahead of another contract", 1, x.watcher(0, 4));
        x.hour(0, false);
        due.is("sitting up ahead of another contract", 1, x.told(11));
        due.is("coffee ahead of another contract", 0, x.coffee(0));
        Due.feed(x, "k2 1 2 3;p50 1 2 60;p7 1 1 1;");
        due.is("another contract", 2, x.contract());
        due.are("told(0..16) of another contract", Due.row(2, 1, 2, 3, 2, 0, 0, 0, 0, 0, 0, 0, 0, 0, 0, 0, 0), toldFrom(x, 0));
        due.is("tired anew", 50, x.watcher(0, 0));
        due.is("hours watched anew", 0, x.watcher(0, 4));
        due.is("images are gone", NOT, x.goBack(0));
        due.is("what could be undone is gone", NOT, x.undo());
        due.is("the seed stays", 77, x.seed(0));
        x.hour(2, false);
        x.hour(1, false);
        x.hour(2, false);
        x.coffee(0);
        due.are("told(7), (10), (11), (13) just ahead", Due.row(3, 2, 0, 1), x.told(7), x.told(10), x.told(11), x.told(13));
        due.is("an empty text takes the contract away", 0, x.contract());
        due.are("told(0..16) without a contract", new int[17], toldFrom(x, 0));
        due.is("hour(0, false) without a contract", NOT, x.hour(0, false));
    }

    private static int[] toldFrom(SleeplessVillage x, int first) {
        int[] answers = new int[17 - first];
        for (int what = first; what <= 16; what++) answers[what - first] = x.told(what);
        return answers;
    }

    private static void promise3and4Faults() {
        String night = "k1 0 0 0;";
        String six = night + "p1 1 1 1;".repeat(6);
        String eight = night + "s0;".repeat(8);
        faulty("p0 0 0 0;", 1, 0);
        faulty("s0;", 1, 0);
        faulty("x", 1, 0);
        faulty("7", 1, 0);
        faulty(";", 1, 0);
        faulty("  \t", 1, 2);
        faulty("K1 0 0 0;", 1, 0);
        faulty("k", 1, 1);
        faulty("k  ", 1, 3);
        faulty("k;", 1, 1);
        faulty("kk", 1, 1);
        faulty("k1 k", 1, 3);
        faulty("k1 0 0 0", 1, 8);
        faulty("k1 0 0 0  ", 1, 10);
        faulty("k1 0 0;", 1, 6);
        faulty("k1 0 0 0 0;", 1, 9);
        faulty("k1 0 0 0 1234;", 1, 9);
        faulty("k1 0 0 0p", 1, 8);
        faulty("k1 -1 0 0;", 1, 3);
        faulty("k0 0 0 0;", 2, 1);
        faulty("k7 0 0 0;", 2, 1);
        faulty("k7", 2, 1);
        faulty("k7x", 2, 1);
        faulty("k1 100 0 0;", 2, 3);
        faulty("k1 0 100 0;", 2, 5);
        faulty("k1 0 0 21;", 2, 7);
        faulty("k0001 0 0 0;", 2, 1);
        faulty("k  1 0000 0 0;", 2, 5);
        faulty("k1 99999999999999999999 0 0;", 2, 3);
        faulty("k1 4294967297 0 0;", 2, 3);
        faulty(night + "k", 3, 9);
        faulty(night + "k1 0 0 0;", 3, 9);
        faulty(night + "x", 1, 9);
        faulty(night + ";", 1, 9);
        faulty(night + "1", 1, 9);
        faulty(night + (char) 160, 1, 9);
        faulty(night + (char) 255, 1, 9);
        faulty(night + "p100 0 0 0;", 2, 10);
        faulty(night + "p0 31 0 0;", 2, 12);
        faulty(night + "p0 0 31 0;", 2, 14);
        faulty(night + "p0 0 0 100;", 2, 16);
        faulty(night + "p0 0 0 0", 1, 17);
        faulty(night + "p0 0 0;", 1, 15);
        faulty(night + "s", 1, 10);
        faulty(night + "s1;", 2, 10);
        faulty(night + "s1x", 2, 10);
        faulty(night + "s0", 1, 11);
        faulty(night + "s 1;p1 1 1 1;", 2, 11);
        faulty(night + "p1 1 1 1;s2;", 2, 19);
        faulty(night + "p1 1 1 1;s64;", 2, 19);
        faulty(six + "s64;", 2, six.length() + 1);
        faulty(six + "p1 1 1 1;", 3, six.length());
        faulty(six + " p", 3, six.length() + 1);
        faulty(eight + "s0;", 3, eight.length());
        faulty(eight + "s", 3, eight.length());
        faulty(" ".repeat(219) + "k", 1, 220);
    }

    private static void faulty(String text, int kind, int place) {
        SleeplessVillage x = new SleeplessVillage();
        Due.feed(x, text);
        due.is("contract() of \"" + text + "\"", -10 - kind, x.contract());
        due.is("fault() of \"" + text + "\"", place, x.fault());
        due.is("letters left of \"" + text + "\"", 0, x.told(6));
        due.is("no contract by \"" + text + "\"", 0, x.told(0));
    }

    private static void promise4Fault() {
        SleeplessVillage x = new SleeplessVillage();
        Due.feed(x, "k1 0 0 0;p1 1 1 1;");
        x.contract();
        Due.feed(x, "k1 0 0 0");
        due.is("contract() of a text shorter than the one ahead", -11, x.contract());
        due.is("fault() of a text shorter than the one ahead", 8, x.fault());
        Due.feed(x, "k1 x");
        x.contract();
        due.is("fault()", 3, x.fault());
        Due.feed(x, "k1 0 0 0;");
        due.is("fault() stays while letters come", 3, x.fault());
        x.contract();
        due.is("fault() of a text without one", -1, x.fault());
        Due.feed(x, "?");
        x.contract();
        due.is("fault() again", 0, x.fault());
        x.contract();
        due.is("fault() of an empty text", -1, x.fault());
    }

    private static void promise5Told() {
        SleeplessVillage x = Due.village("k2 10 7 5;p10 8 4 9;p0 1 1 50;p0 1 1 50;s1;s2;");
        due.is("told(-1)", OUTSIDE, x.told(-1));
        due.is("told(17)", OUTSIDE, x.told(17));
        due.is("told(2147483647)", OUTSIDE, x.told(Integer.MAX_VALUE));
        due.is("told(-2147483648)", OUTSIDE, x.told(Integer.MIN_VALUE));
        x.hour(3, false);
        x.hour(0, false);
        x.hour(3, false);
        x.coffee(1);
        x.see(0, true);
        x.see(1, false);
        x.write(0, 4);
        x.write(0, 5);
        x.write(0, 6);
        Due.feed(x, "k1 ");
        // hour 0: watcher 0 is 18, nods, sleeper 0 sits up; hour 1: both sit up; hour 2: as hour 0
        due.are("told(0..16)", Due.row(2, 10, 7, 5, 3, 2, 3, 3, 20, 28, 1, 1, 1, 2, 2, 3, 4), toldFrom(x, 0));
    }

    private static void promise6Watcher() {
        SleeplessVillage x = Due.village("k3 10 7 5;p10 8 4 30;p0 12 6 25;");
        due.are("watcher(0, 0..4)", Due.row(10, 8, 4, 30, 0), x.watcher(0, 0), x.watcher(0, 1), x.watcher(0, 2), x.watcher(0, 3), x.watcher(0, 4));
        due.are("watcher(1, 0..4)", Due.row(0, 12, 6, 25, 0), x.watcher(1, 0), x.watcher(1, 1), x.watcher(1, 2), x.watcher(1, 3), x.watcher(1, 4));
        x.hour(1, false);
        x.hour(2, false);
        x.hour(1, false);
        x.hour(1, false);
        // 18, 14, 22, 30: never above 30; then 38 nods
        due.is("hours without nodding", 3, x.watcher(0, 4));
        due.is("hour(1, false)", 1, x.hour(1, false));
        due.is("hours with a nod are not counted", 3, x.watcher(0, 4));
        due.is("hours of the other", 1, x.watcher(1, 4));
        due.is("watcher(2, 0)", UNKNOWN, x.watcher(2, 0));
        due.is("watcher(-1, 0)", UNKNOWN, x.watcher(-1, 0));
        due.is("watcher(2147483647, 9)", UNKNOWN, x.watcher(Integer.MAX_VALUE, 9));
        due.is("watcher(0, 5)", OUTSIDE, x.watcher(0, 5));
        due.is("watcher(0, -1)", OUTSIDE, x.watcher(0, -1));
    }

    private static void promise7Sleeper() {
        SleeplessVillage x = Due.village("k1 0 0 0;s0;p1 1 1 1;p1 1 1 1;s3;s2;");
        due.are("sleeper(0..2)", Due.row(0, 3, 2), x.sleeper(0), x.sleeper(1), x.sleeper(2));
        due.is("sleeper(3)", UNKNOWN, x.sleeper(3));
        due.is("sleeper(-1)", UNKNOWN, x.sleeper(-1));
        due.is("sleeper(8)", UNKNOWN, x.sleeper(8));
    }
}
