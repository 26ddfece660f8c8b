/** Section 1 and promises 1 to 7 at their bounds: the text, its numbers, its clauses, its faults, what is told of it. */
public final class TextEdgeTest {
    private static final int NONE = SleeplessVillage.NONE, UNKNOWN = SleeplessVillage.UNKNOWN, OUTSIDE = SleeplessVillage.OUTSIDE,
        NOT = SleeplessVillage.NOT, FULL = SleeplessVillage.FULL;
    private static final int LEAST = Integer.MIN_VALUE, MOST = Integer.MAX_VALUE;
    private static final String NIGHT = "k1 0 0 0;", WATCHER = "p1 1 1 1;";
    private static final Due due = new Due("TextEdgeTest");

    public static void main(String[] args) {
        lettersOfTheText();
        boundsOfNight();
        boundsOfWatchers();
        boundsOfSleepers();
        toldAhead();
        figures();
        nightFirstAndOnce();
        mostWatchers();
        mostSleepers();
        blanksAnywhere();
        blanksWithinNumbers();
        onlyThirtyTwoIsBlank();
        lettersThatAreNoWord();
        faultAtTheEnd();
        firstFaultOfSeveral();
        leastFaultAtOneLetter();
        emptyTexts();
        newObject();
        feedBounds();
        contractAnswers();
        faultChangesNothingElse();
        contractBeginsAnew();
        faultPlace();
        toldBounds();
        toldNoughtWithout();
        watcherBounds();
        sleeperBounds();
        due.close();
    }

    private static SleeplessVillage read(String text, int want) {
        SleeplessVillage x = new SleeplessVillage();
        Due.feed(x, text);
        due.is("contract() of \"" + text + "\"", want, x.contract());
        return x;
    }

    private static SleeplessVillage stands(String text, int watchers) {
        SleeplessVillage x = read(text, watchers);
        due.is("fault() of \"" + text + "\"", NONE, x.fault());
        return x;
    }

    private static void faulty(String text, int kind, int place) {
        SleeplessVillage x = read(text, -10 - kind);
        due.is("fault() of \"" + text + "\"", place, x.fault());
        due.is("H of \"" + text + "\"", 0, x.told(0));
    }

    // ---- section 1

    private static void lettersOfTheText() {
        due.sentence("THE CONTRACT is told in a text (220 letters at most)");
        String blanks = " ".repeat(220 - NIGHT.length());
        due.is("H by a text that ends with letter 220", 1, stands(blanks + NIGHT, 0).told(0));
        SleeplessVillage x = new SleeplessVillage();
        Due.feed(x, blanks + " k1 0 0 0");
        due.is("letter 221", FULL, x.feed(';'));
        due.is("letters", 220, x.told(6));
        due.is("contract() without letter 221", -11, x.contract());
        due.is("fault() without letter 221", 220, x.fault());
        due.is("letter 1 of the next text", 1, x.feed('k'));
    }

    /** Text ahead of a number, the number, text behind it: what stands and what does not. */
    private static void bounded(String ahead, int least, int most, String behind) {
        int place = ahead.length();
        stands(ahead + least + behind, watchersIn(ahead + behind));
        stands(ahead + most + behind, watchersIn(ahead + behind));
        faulty(ahead + (most + 1) + behind, 2, place);
        faulty(ahead + "  " + (most + 1) + behind, 2, place + 2);
        faulty(ahead + 999 + behind, 2, place);
        if (least > 0) faulty(ahead + (least - 1) + behind, 2, place);
        faulty(ahead + "-1" + behind, 1, place);
    }

    private static int watchersIn(String text) {
        return (int) text.chars().filter(c -> c == 'p').count();
    }

    private static void boundsOfNight() {
        due.sentence("a NIGHT has H HOURS, 1 .. 6");
        bounded("k", 1, 6, " 0 0 0;");
        for (int h = 1; h <= 6; h++) due.is("told(0)", h, stands("k" + h + " 0 0 0;", 0).told(0));
        due.sentence("WOOL W an HOUR that is watched, 0 .. 99");
        bounded("k1 ", 0, 99, " 0 0;");
        for (int w : Due.row(0, 1, 98, 99)) due.is("told(1)", w, stands("k1 " + w + " 0 0;", 0).told(1));
        due.sentence("FINE F for each SLEEPER that sits up, 0 .. 99");
        bounded("k1 0 ", 0, 99, " 0;");
        for (int f : Due.row(0, 1, 98, 99)) due.is("told(2)", f, stands("k1 0 " + f + " 0;", 0).told(2));
        due.sentence("a BELL makes B less TIRED, 0 .. 20");
        bounded("k1 0 0 ", 0, 20, ";");
        for (int b : Due.row(0, 1, 19, 20)) due.is("told(3)", b, stands("k1 0 0 " + b + ";", 0).told(3));
    }

    private static void boundsOfWatchers() {
        due.sentence("TIRED T 0 .. 99");
        bounded(NIGHT + "p", 0, 99, " 0 0 0;");
        for (int t : Due.row(0, 1, 98, 99)) due.is("watcher(0, 0)", t, stands(NIGHT + "p" + t + " 0 0 0;", 1).watcher(0, 0));
        due.sentence("an HOUR of watching makes A more, 0 .. 30");
        bounded(NIGHT + "p0 ", 0, 30, " 0 0;");
        for (int a : Due.row(0, 1, 29, 30)) due.is("watcher(0, 1)", a, stands(NIGHT + "p0 " + a + " 0 0;", 1).watcher(0, 1));
        due.sentence("one of rest R less, 0 .. 30");
        bounded(NIGHT + "p0 0 ", 0, 30, " 0;");
        for (int r : Due.row(0, 1, 29, 30)) due.is("watcher(0, 2)", r, stands(NIGHT + "p0 0 " + r + " 0;", 1).watcher(0, 2));
        due.sentence("NODS when TIRED above N, 0 .. 99");
        bounded(NIGHT + "p0 0 0 ", 0, 99, ";");
        for (int n : Due.row(0, 1, 98, 99)) due.is("watcher(0, 3)", n, stands(NIGHT + "p0 0 0 " + n + ";", 1).watcher(0, 3));
    }

    private static void boundsOfSleepers() {
        due.sentence("who lie in what the WATCHERS of M guard, 0 .. 63, a SET");
        String six = NIGHT + WATCHER.repeat(6) + "s";
        bounded(six, 0, 63, ";");
        for (int m = 0; m <= 63; m++) due.is("sleeper(0)", m, stands(six + m + ";", 6).sleeper(0));
        for (int m : Due.row(64, 65, 127, 128, 255, 256, 512, 999)) faulty(six + m + ";", 2, six.length());
    }

    private static void toldAhead() {
        due.sentence("an M with bits of WATCHERS that were not told yet (at its first)");
        for (int told = 0; told <= 6; told++) {
            String ahead = NIGHT + WATCHER.repeat(told) + "s ";
            for (int m = 0; m <= 130; m++) {
                if (m < 1 << told) stands(ahead + m + ";", told);
                else faulty(ahead + m + ";", 2, ahead.length());
            }
        }
        faulty(NIGHT + "s1;" + WATCHER, 2, 10);
        faulty(NIGHT + WATCHER + "s1;s2;" + WATCHER, 2, 22);
        due.is("sleeper(1)", 2, stands(NIGHT + WATCHER + "s1;" + WATCHER + "s2;", 2).sleeper(1));
    }

    private static void figures() {
        due.sentence("NUMBERS have one to three figures; 2 a NUMBER of four figures or more");
        stands("k1 9 9 9;", 0);
        stands("k01 09 09 09;", 0);
        due.are("W, F, B of three figures", Due.row(9, 10, 11), tellNight("k001 009 010 011;"));
        due.are("W, F, B of noughts", Due.row(0, 0, 0), tellNight("k001 0 00 000;"));
        faulty("k0001 9 9 9;", 2, 1);
        faulty("k1 0000 9 9;", 2, 3);
        faulty("k1 9 0009 9;", 2, 5);
        faulty("k1 9 9 0009;", 2, 7);
        faulty(NIGHT + "p0000 1 1 1;", 2, 10);
        faulty(NIGHT + "p1 1 1 0001;", 2, 16);
        faulty(NIGHT + "s0000;", 2, 10);
        faulty("k1 " + "0".repeat(200) + " 9 9;", 2, 3);
        faulty("k" + "1".repeat(219), 2, 1);
        due.sentence("2 a NUMBER of four figures or more: none comes around to one within the bounds");
        for (String far : new String[] {"4294967297", "2147483649", "18446744073709551617", "65537", "1025", "1001"}) {
            faulty("k" + far + " 0 0 0;", 2, 1);
            faulty(NIGHT + "p" + far + " 0 0 0;", 2, 10);
        }
        due.sentence("NUMBERS have one to three figures: one at least");
        faulty("k;", 1, 1);
        faulty("k1 1 1;", 1, 6);
        faulty(NIGHT + "p;", 1, 10);
        faulty(NIGHT + "s;", 1, 10);
    }

    private static int[] tellNight(String text) {
        SleeplessVillage x = stands(text, 0);
        return Due.row(x.told(1), x.told(2), x.told(3));
    }

    private static void nightFirstAndOnce() {
        due.sentence("first, once; 1 another word first than 'k'; 3 'k' again (at it)");
        faulty("p1 1 1 1;" + NIGHT, 1, 0);
        faulty("  s0;" + NIGHT, 1, 2);
        faulty(NIGHT + NIGHT, 3, 9);
        faulty(NIGHT + "  " + NIGHT, 3, 11);
        faulty(NIGHT + WATCHER + "s0;k", 3, 21);
        stands(NIGHT + WATCHER + "s0;", 1);
    }

    private static void mostWatchers() {
        due.sentence("6 WATCHERS at most; 3 a seventh 'p' (at it)");
        for (int count = 0; count <= 6; count++) {
            SleeplessVillage x = stands(NIGHT + "p7 1 2 3;".repeat(count), count);
            due.is("told(4)", count, x.told(4));
            due.is("the last of them", count == 0 ? UNKNOWN : 7, x.watcher(count - 1, 0));
            due.is("one behind the last", UNKNOWN, x.watcher(count, 0));
        }
        String six = NIGHT + WATCHER.repeat(6);
        faulty(six + WATCHER, 3, six.length());
        faulty(six + "s63;" + WATCHER, 3, six.length() + 4);
        faulty(six + " p", 3, six.length() + 1);
        stands(six + "s63;", 6);
    }

    private static void mostSleepers() {
        due.sentence("8 SLEEPERS at most; 3 a ninth 's' (at it)");
        for (int count = 0; count <= 8; count++) {
            SleeplessVillage x = stands(NIGHT + WATCHER + "s1;".repeat(count), 1);
            due.is("told(5)", count, x.told(5));
            due.is("the last of them", count == 0 ? UNKNOWN : 1, x.sleeper(count - 1));
            due.is("one behind the last", UNKNOWN, x.sleeper(count));
        }
        String eight = NIGHT + WATCHER + "s1;".repeat(8);
        faulty(eight + "s1;", 3, eight.length());
        faulty(eight + WATCHER + "s2;", 3, eight.length() + 9);
        faulty(eight + " s", 3, eight.length() + 1);
        stands(eight + WATCHER, 2);
    }

    private static void blanksAnywhere() {
        due.sentence("blanks (32) may stand anywhere; two NUMBERS side by side need one");
        String[] words = {"k", "2", " ", "11", " ", "12", " ", "13", ";", "p", "14", " ", "15", " ", "16", " ", "17", ";", "s", "1", ";"};
        for (int gap = 0; gap <= words.length; gap++) {
            for (int blanks = 0; blanks <= 3; blanks++) {
                StringBuilder text = new StringBuilder();
                for (int i = 0; i < words.length; i++) text.append(i == gap ? " ".repeat(blanks) : "").append(words[i]);
                if (gap == words.length) text.append(" ".repeat(blanks));
                SleeplessVillage x = stands(text.toString(), 1);
                due.are("told(0 .. 5) of " + text, Due.row(2, 11, 12, 13, 1, 1), x.told(0), x.told(1), x.told(2), x.told(3), x.told(4), x.told(5));
                due.are("watcher(0, 0 .. 3) of " + text, Due.row(14, 15, 16, 17), x.watcher(0, 0), x.watcher(0, 1), x.watcher(0, 2), x.watcher(0, 3));
                due.is("sleeper(0) of " + text, 1, x.sleeper(0));
            }
        }
        // without their blank two numbers are one, and one is wanting
        faulty("k1 1 11;", 1, 7);
        faulty(NIGHT + "p1 11 1;", 1, 16);
    }

    private static void blanksWithinNumbers() {
        due.sentence("blanks (32) may stand anywhere but within NUMBERS");
        faulty("k1 1 1 1 1;", 1, 9);
        faulty(NIGHT + "p1 1 1 1 1;", 1, 18);
        faulty(NIGHT + WATCHER + "s0 1;", 1, 21);
        due.is("W of \"1 0\" is 1", 1, stands("k1 1 0 0;", 0).told(1));
    }

    private static void onlyThirtyTwoIsBlank() {
        due.sentence("blanks (32)");
        for (int letter : Due.row(0, 9, 10, 11, 12, 13, 31, 33, 127, 128, 133, 160, 255)) {
            faulty((char) letter + NIGHT, 1, 0);
            faulty("k" + (char) letter + "1 0 0 0;", 1, 1);
            faulty("k1" + (char) letter + "0 0 0;", 1, 2);
            faulty("k1 0 0 0" + (char) letter + ";", 1, 8);
            faulty(NIGHT + (char) letter, 1, 9);
        }
    }

    /** Every letter that there is at every kind of place: what is not wanted there is fault 1 at it. */
    private static void lettersThatAreNoWord() {
        due.sentence("1 it cannot stand there (a letter that is no word, another word first than 'k')");
        for (int letter = 0; letter <= 255; letter++) {
            char sign = (char) letter;
            boolean figure = sign >= '0' && sign <= '9', blank = sign == ' ';
            if (!blank && sign != 'k') faulty("" + sign, 1, 0);
            if (!blank && sign != 'k' && sign != 'p' && sign != 's') faulty(NIGHT + sign, 1, 9);
            if (!blank && !figure) faulty("k" + sign, 1, 1);
            if (!blank && !figure) faulty("k1 0" + sign, 1, 4);
            if (!blank && sign != ';') faulty("k1 0 0 0 " + sign, 1, 9);
            if (!blank && !figure) faulty(NIGHT + "p" + sign, 1, 10);
            if (!blank && sign != ';') faulty(NIGHT + "p0 0 0 0 " + sign, 1, 18);
            if (!blank && !figure) faulty(NIGHT + "s" + sign, 1, 10);
            if (!blank && sign != ';') faulty(NIGHT + "s0 " + sign, 1, 12);
        }
    }

    private static void faultAtTheEnd() {
        due.sentence("at the first letter that has one (the end at the text's length)");
        String text = "k1 2 3 4;p1 2 3 4;s1;";
        for (int cut = 1; cut < text.length(); cut++) {
            String ahead = text.substring(0, cut);
            if (ahead.endsWith(";")) stands(ahead, cut > 9 ? 1 : 0);
            else {
                faulty(ahead, 1, cut);
                faulty(ahead + "   ", 1, cut + 3);
            }
        }
        faulty(" ".repeat(219) + "k", 1, 220);
        faulty("k" + " ".repeat(219), 1, 220);
        // letters of a longer text ahead are no part of this one
        for (int cut = 1; cut < 9; cut++) {
            SleeplessVillage x = Due.village(text);
            Due.feed(x, text.substring(0, cut));
            due.are("contract(), fault() of " + cut + " letters behind a longer text", Due.row(-11, cut), x.contract(), x.fault());
        }
    }

    private static void firstFaultOfSeveral() {
        due.sentence("FAULTS, at the first letter that has one");
        faulty("k7 100 100 21;", 2, 1);
        faulty("k1 100 100 21;", 2, 3);
        faulty("k7x", 2, 1);
        faulty("k7", 2, 1);
        faulty("k1x0000", 1, 2);
        faulty(NIGHT + "kx", 3, 9);
        faulty(NIGHT + "xk", 1, 9);
        faulty(NIGHT + "s1k", 2, 10);
        faulty(NIGHT + "p100 31 31 100x", 2, 10);
        faulty("xk", 1, 0);
    }

    private static void leastFaultAtOneLetter() {
        due.sentence("of these the least");
        String full = NIGHT + WATCHER.repeat(6) + "s0;".repeat(7);
        faulty("kk", 1, 1);
        faulty("k1 0 0 0k", 1, 8);
        faulty(NIGHT + "pk", 1, 10);
        faulty(full + "sk", 1, full.length() + 1);
        faulty(full + "sp", 1, full.length() + 1);
        faulty(full + "ss", 1, full.length() + 1);
        faulty(full + "s0s", 1, full.length() + 2);
        // a number where none is wanted can't stand there, whatever it is
        faulty("1234", 1, 0);
        faulty("k1 0 0 0 1234;", 1, 9);
        faulty(NIGHT + "1234", 1, 9);
        faulty(NIGHT + "s0 64", 1, 12);
    }

    private static void emptyTexts() {
        due.sentence("An empty text (or one of blanks alone) has no FAULT: no CONTRACT");
        for (int blanks : Due.row(0, 1, 2, 219, 220)) {
            SleeplessVillage x = Due.village("k2 1 1 1;p1 1 1 1;s1;");
            Due.feed(x, " ".repeat(blanks));
            due.is("letters", blanks, x.told(6));
            due.is("contract() of " + blanks + " blanks", 0, x.contract());
            due.is("fault() of " + blanks + " blanks", NONE, x.fault());
            for (int what = 0; what <= 16; what++) due.is("told(" + what + ") by " + blanks + " blanks", 0, x.told(what));
            due.is("a watcher by " + blanks + " blanks", UNKNOWN, x.watcher(0, 0));
            due.is("a sleeper by " + blanks + " blanks", UNKNOWN, x.sleeper(0));
            due.is("an hour by " + blanks + " blanks", NOT, x.hour(0, false));
        }
        due.is("an hour by a night alone", 0, stands(NIGHT, 0).hour(0, false));
    }

    // ---- promises 1 to 7

    private static void newObject() {
        due.sentence("Promise 1: No CONTRACT");
        SleeplessVillage x = new SleeplessVillage();
        for (int what = 0; what <= 16; what++) due.is("told(" + what + ")", 0, x.told(what));
        due.is("fault()", NONE, x.fault());
        due.are("what asks for a contract", Due.row(NOT, NOT, NOT, NOT, NOT, NOT, NOT), x.hour(0, true), x.rest(1), x.drift(1), x.watches(NONE),
            x.bellHour(0), x.coffeeFor(), x.hold());
        due.are("what asks for a watcher", Due.row(UNKNOWN, UNKNOWN, UNKNOWN, UNKNOWN, UNKNOWN, UNKNOWN), x.watcher(0, 0), x.coffee(0), x.nights(0),
            x.share(0), x.paid(0), x.blink(0, 0, 0));
        due.are("what is kept", Due.row(NOT, NOT, NOT, NONE, 0, 0), x.undo(), x.goBack(0), x.goBack(1), x.judge(), x.tear(), x.seed(0));
    }

    private static void feedBounds() {
        due.sentence("Promise 2: One letter (a number 0 .. 255); OUTSIDE, FULL (220)");
        for (int letter : Due.row(-1, 256, 257, 1000, LEAST, MOST, -256, 65536 + 'k')) {
            due.leaves("feed(" + letter + ")", OUTSIDE, Busy::village, x -> x.feed(letter));
        }
        SleeplessVillage x = new SleeplessVillage();
        for (int letter = 0; letter <= 219; letter++) due.is("feed(" + letter + ")", letter + 1, x.feed(letter));
        due.is("feed(0), 220 letters", FULL, x.feed(0));
        due.is("feed(255), 220 letters", FULL, x.feed(255));
        due.is("letters", 220, x.told(6));
        x.contract();
        for (int letter = 220; letter <= 255; letter++) due.is("feed(" + letter + ")", letter - 219, x.feed(letter));
        due.leaves("feed(';'), 220 letters", FULL, Busy::withFullText, y -> y.feed(';'));
    }

    private static void contractAnswers() {
        due.sentence("Promise 3: how many WATCHERS; -10 less the number of its FAULT");
        for (int count = 0; count <= 6; count++) read(NIGHT + WATCHER.repeat(count), count);
        read("x", -11);
        read("k7 0 0 0;", -12);
        read(NIGHT + "k", -13);
    }

    private static void faultChangesNothingElse() {
        due.sentence("Promise 3: THE TEXT (it is empty then, with a FAULT, too); all else is as it was");
        String[] texts = {"?", "k", "k7", "k5 6 7 8;x", "k5 6 7 8;p99 1 1 1;p1", "k5 6 7 8;p0 0 0 0;s1;s2;", NIGHT + NIGHT,
            NIGHT + WATCHER.repeat(7), NIGHT + "s0;".repeat(9)};
        int[] kinds = {1, 1, 2, 1, 1, 2, 3, 3, 3};
        int[] untouched = Whole.butFault(Busy.withoutText());
        for (int i = 0; i < texts.length; i++) {
            SleeplessVillage x = Busy.withoutText();
            Due.feed(x, texts[i]);
            due.is("contract() of \"" + texts[i] + "\"", -10 - kinds[i], x.contract());
            due.is("letters behind it", 0, x.told(6));
            due.are("all behind \"" + texts[i] + "\"", untouched, Whole.butFault(x));
        }
    }

    private static void contractBeginsAnew() {
        due.sentence("Promise 3: HOUR 0, no WOOL, FINES, no COFFEE had; nothing SEEN, no BOOK; IMAGES, what could be undone are gone; THE SEED stays");
        SleeplessVillage x = Busy.withoutText();
        int seed = x.seed(5);
        x.seed(seed);
        Due.feed(x, Busy.THREE);
        due.is("contract() of the same text", 3, x.contract());
        SleeplessVillage fresh = Due.village(Busy.THREE);
        fresh.seed(seed);
        due.are("all as if it were the first contract", Whole.of(fresh), Whole.of(x));
        String fewer = "k2 1 2 3;p1 1 0 40;p1 1 0 40;s1;";
        x = Busy.withoutText();
        Due.feed(x, fewer);
        due.is("contract() with fewer watchers and sleepers", 2, x.contract());
        fresh = Due.village(fewer);
        fresh.seed(seed);
        due.are("all as if there never were more", Whole.of(fresh), Whole.of(x));
        x = Busy.withoutText();
        due.is("contract() of no text", 0, x.contract());
        SleeplessVillage bare = new SleeplessVillage();
        bare.seed(seed);
        due.are("all as if there never was one", Whole.of(bare), Whole.of(x));
    }

    private static void faultPlace() {
        due.sentence("Promise 4: The place (from 0 on) of the letter that has the FAULT of the latest contract(); NONE");
        SleeplessVillage x = new SleeplessVillage();
        due.is("fault() ahead of any", NONE, x.fault());
        Due.feed(x, "?");
        due.is("fault() ahead of contract()", NONE, x.fault());
        x.contract();
        due.is("fault() at the first letter", 0, x.fault());
        Due.feed(x, " ".repeat(219) + "?");
        x.contract();
        due.is("fault() at the last letter that can be", 219, x.fault());
        Due.feed(x, NIGHT);
        x.contract();
        due.is("fault() of a text without one", NONE, x.fault());
        Due.feed(x, "k1 7 x");
        x.contract();
        due.is("fault() again", 5, x.fault());
        x.contract();
        due.is("fault() of an empty text", NONE, x.fault());
    }

    private static void toldBounds() {
        due.sentence("Promise 5: 0 H .. 16 how many can be undone. OUTSIDE");
        for (int what : Due.row(-1, 17, 18, 256, -16, LEAST, MOST)) due.leaves("told(" + what + ")", OUTSIDE, Busy::village, x -> x.told(what));
        SleeplessVillage x = Busy.village();
        due.are("told(0 .. 16)", Due.row(3, 10, 7, 5, 3, 5, 10, 11, 90, 42, 2, 8, 1, 1, 2, 2, 6), x.told(0), x.told(1), x.told(2), x.told(3),
            x.told(4), x.told(5), x.told(6), x.told(7), x.told(8), x.told(9), x.told(10), x.told(11), x.told(12), x.told(13), x.told(14),
            x.told(15), x.told(16));
    }

    private static void toldNoughtWithout() {
        due.sentence("Promise 5: who NODDED in the latest HOUR, which SLEEPERS sat up in it (SETS; 0 without)");
        SleeplessVillage x = Due.village("k1 0 0 0;p1 0 0 0;s1;s0;");
        due.are("ahead of any hour", Due.row(0, 0), x.told(10), x.told(11));
        x.hour(1, false);
        due.are("behind an hour with a nod", Due.row(1, 3), x.told(10), x.told(11));
        x.hour(0, false);
        due.are("behind an hour without watchers", Due.row(0, 3), x.told(10), x.told(11));
        x.undo();
        x.undo();
        due.are("where the only hours are undone", Due.row(0, 0), x.told(10), x.told(11));
        x.hour(1, false);
        x.rest(1);
        due.are("behind rest", Due.row(0, 0), x.told(10), x.told(11));
    }

    private static void watcherBounds() {
        due.sentence("Promise 6: UNKNOWN, OUTSIDE");
        for (int p : Due.row(-1, 3, 5, 6, 7, LEAST, MOST)) due.leaves("watcher(" + p + ", 0)", UNKNOWN, Busy::village, x -> x.watcher(p, 0));
        for (int what : Due.row(-1, 5, 6, LEAST, MOST)) due.leaves("watcher(2, " + what + ")", OUTSIDE, Busy::village, x -> x.watcher(2, what));
        SleeplessVillage x = Busy.village();
        due.are("watcher(0, 0 .. 3)", Due.row(8, 8, 4, 30), x.watcher(0, 0), x.watcher(0, 1), x.watcher(0, 2), x.watcher(0, 3));
        due.are("watcher(2, 0 .. 3)", Due.row(0, 3, 10, 45), x.watcher(2, 0), x.watcher(2, 1), x.watcher(2, 2), x.watcher(2, 3));
        x = Due.village(NIGHT + "p0 0 0 0;p1 0 0 0;");
        due.are("watcher(0 .. 1, 4) at first", Due.row(0, 0), x.watcher(0, 4), x.watcher(1, 4));
        x.hour(3, false);
        due.are("watcher(0 .. 1, 4): HOURS without NODDING", Due.row(1, 0), x.watcher(0, 4), x.watcher(1, 4));
        x.hour(0, false);
        due.are("watcher(0 .. 1, 4) behind an hour of rest", Due.row(1, 0), x.watcher(0, 4), x.watcher(1, 4));
    }

    private static void sleeperBounds() {
        due.sentence("Promise 7: UNKNOWN");
        for (int s : Due.row(-1, 5, 7, 8, 9, LEAST, MOST)) due.leaves("sleeper(" + s + ")", UNKNOWN, Busy::village, x -> x.sleeper(s));
        SleeplessVillage x = Busy.village();
        due.are("sleeper(0), sleeper(4)", Due.row(1, 0), x.sleeper(0), x.sleeper(4));
        x = Due.village(NIGHT + WATCHER + "s1;".repeat(8));
        due.are("sleeper(7), sleeper(8)", Due.row(1, UNKNOWN), x.sleeper(7), x.sleeper(8));
        due.is("sleeper(0) without sleepers", UNKNOWN, Due.village(NIGHT).sleeper(0));
    }
}
