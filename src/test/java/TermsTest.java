import java.util.function.Supplier;

/** The section 'Terms': which refusal comes first, what bits are refused, and that asking changes nothing. */
public final class TermsTest {
    private static final int NONE = SleeplessVillage.NONE, UNKNOWN = SleeplessVillage.UNKNOWN, OUTSIDE = SleeplessVillage.OUTSIDE,
        NOT = SleeplessVillage.NOT, FULL = SleeplessVillage.FULL;
    private static final int LEAST = Integer.MIN_VALUE, MOST = Integer.MAX_VALUE;
    private static final Due due = new Due("TermsTest");

    public static void main(String[] args) {
        constants();
        unknownAheadOfOutside();
        unknownAheadOfNot();
        unknownAheadOfFull();
        outsideAheadOfNot();
        outsideAheadOfFull();
        bitsOfSuch();
        numbersFromNought();
        askingChangesNothing();
        due.close();
    }

    private static void constants() {
        due.sentence("They are far below all that is counted: -1000000001 and on");
        due.are("the constants", Due.row(-1, -1000000001, -1000000002, -1000000003, -1000000004), NONE, UNKNOWN, OUTSIDE, NOT, FULL);
    }

    private static void unknownAheadOfOutside() {
        due.sentence("REFUSALS, of several the first in this order: UNKNOWN, OUTSIDE");
        Supplier<SleeplessVillage> busy = Busy::village;
        due.leaves("watcher(3, 5)", UNKNOWN, busy, x -> x.watcher(3, 5));
        due.leaves("watcher(2, 5)", OUTSIDE, busy, x -> x.watcher(2, 5));
        due.leaves("blink(3, 61, 0)", UNKNOWN, busy, x -> x.blink(3, 61, 0));
        due.leaves("blink(3, 0, 101)", UNKNOWN, busy, x -> x.blink(3, 0, 101));
        due.leaves("blink(2, 61, 101)", OUTSIDE, busy, x -> x.blink(2, 61, 101));
        due.leaves("write(3, 200)", UNKNOWN, busy, x -> x.write(3, 200));
        due.leaves("write(2, 200)", OUTSIDE, busy, x -> x.write(2, 200));
        Supplier<SleeplessVillage> bare = Busy::withoutContract;
        due.leaves("watcher(0, 5), no contract", UNKNOWN, bare, x -> x.watcher(0, 5));
        due.leaves("blink(0, 61, 101), no contract", UNKNOWN, bare, x -> x.blink(0, 61, 101));
        due.leaves("write(0, 200), no contract", UNKNOWN, bare, x -> x.write(0, 200));
    }

    private static void unknownAheadOfNot() {
        due.sentence("REFUSALS, of several the first in this order: UNKNOWN, NOT");
        Supplier<SleeplessVillage> bare = Busy::withoutContract;
        due.leaves("hour(1, false), no contract", UNKNOWN, bare, x -> x.hour(1, false));
        due.leaves("hour(0, false), no contract", NOT, bare, x -> x.hour(0, false));
        due.leaves("coffee(0), no contract", UNKNOWN, bare, x -> x.coffee(0));
        due.leaves("goBack(2), none kept", UNKNOWN, Busy::withoutImages, x -> x.goBack(2));
        due.leaves("goBack(1), none kept", NOT, Busy::withoutImages, x -> x.goBack(1));
    }

    private static void unknownAheadOfFull() {
        due.sentence("REFUSALS, of several the first in this order: UNKNOWN, FULL");
        due.leaves("see(5, true), 8 seen", UNKNOWN, Busy::withAllSeen, x -> x.see(5, true));
        due.leaves("see(4, true), 8 seen", FULL, Busy::withAllSeen, x -> x.see(4, true));
        due.leaves("write(3, 0), 15 entries", UNKNOWN, Busy::withFullBook, x -> x.write(3, 0));
        due.leaves("write(2, 99), 15 entries", FULL, Busy::withFullBook, x -> x.write(2, 99));
        Supplier<SleeplessVillage> late = () -> Busy.atHour(90001);
        due.leaves("hour(8, false), late", UNKNOWN, late, x -> x.hour(8, false));
        due.leaves("hour(7, false), late", FULL, late, x -> x.hour(7, false));
    }

    private static void outsideAheadOfNot() {
        due.sentence("REFUSALS, of several the first in this order: OUTSIDE, NOT");
        Supplier<SleeplessVillage> bare = Busy::withoutContract;
        due.leaves("rest(0), no contract", OUTSIDE, bare, x -> x.rest(0));
        due.leaves("rest(61), no contract", OUTSIDE, bare, x -> x.rest(61));
        due.leaves("rest(60), no contract", NOT, bare, x -> x.rest(60));
        due.leaves("drift(0), no contract", OUTSIDE, bare, x -> x.drift(0));
        due.leaves("drift(61), no contract", OUTSIDE, bare, x -> x.drift(61));
        due.leaves("drift(60), no contract", NOT, bare, x -> x.drift(60));
        due.leaves("bellHour(-1), no contract", OUTSIDE, bare, x -> x.bellHour(-1));
        due.leaves("bellHour(2), no contract", OUTSIDE, bare, x -> x.bellHour(2));
        due.leaves("bellHour(1), no contract", NOT, bare, x -> x.bellHour(1));
    }

    private static void outsideAheadOfFull() {
        due.sentence("REFUSALS, of several the first in this order: OUTSIDE, FULL");
        due.leaves("feed(256), 220 letters", OUTSIDE, Busy::withFullText, x -> x.feed(256));
        due.leaves("feed(-1), 220 letters", OUTSIDE, Busy::withFullText, x -> x.feed(-1));
        due.leaves("feed(255), 220 letters", FULL, Busy::withFullText, x -> x.feed(255));
        due.leaves("write(0, 200), 15 entries", OUTSIDE, Busy::withFullBook, x -> x.write(0, 200));
        due.leaves("write(0, 199), 15 entries", FULL, Busy::withFullBook, x -> x.write(0, 199));
        Supplier<SleeplessVillage> late = () -> Busy.atHour(90001);
        due.leaves("rest(61), late", OUTSIDE, late, x -> x.rest(61));
        due.leaves("rest(60), late", FULL, late, x -> x.rest(60));
        due.leaves("drift(0), late", OUTSIDE, late, x -> x.drift(0));
        due.leaves("drift(1), late", FULL, late, x -> x.drift(1));
    }

    private static void bitsOfSuch() {
        due.sentence("UNKNOWN (a WATCHER, SLEEPER, IMAGE that there is not; bits of such)");
        for (int count = 0; count <= 6; count++) {
            String text = "k1 0 0 0;" + "p0 0 0 0;".repeat(count);
            int all = (1 << count) - 1;
            due.is("hour() of all " + count, 0, Due.village(text).hour(all, false));
            due.is("nodded() of all " + count, 1 << count, Due.village(text).nodded(all, NONE));
            due.is("askNext() of all " + count, NONE, Due.village(text).askNext(all));
            for (int bit = count; bit < 32; bit++) {
                strangeBits(text, 1 << bit);
                strangeBits(text, all | 1 << bit);
            }
            strangeBits(text, ~all);
            strangeBits(text, -1);
        }
        for (int set : Due.row(8, 15, 64, 1 << 30, LEAST, -1, -8)) {
            due.leaves("hour(" + set + ", true)", UNKNOWN, Busy::village, x -> x.hour(set, true));
            due.leaves("nodded(" + set + ", 0)", UNKNOWN, Busy::village, x -> x.nodded(set, 0));
            due.leaves("askNext(" + set + ")", UNKNOWN, Busy::village, x -> x.askNext(set));
        }
    }

    private static void strangeBits(String text, int set) {
        SleeplessVillage x = Due.village(text);
        due.is("hour(" + set + ", false) by " + text, UNKNOWN, x.hour(set, false));
        due.is("nodded(" + set + ", -1) by " + text, UNKNOWN, x.nodded(set, NONE));
        due.is("nodded(" + set + ", -2) by " + text, UNKNOWN, x.nodded(set, -2));
        due.is("askNext(" + set + ") by " + text, UNKNOWN, x.askNext(set));
        due.is("hours by " + text, 0, x.told(7));
    }

    private static void numbersFromNought() {
        due.sentence("What has a number has it from 0 on, as it comes");
        SleeplessVillage x = Due.village("k1 0 0 0;p11 0 0 0;s0;p12 0 0 0;s2;p13 0 0 0;s7;");
        due.are("the watchers' tired", Due.row(11, 12, 13, UNKNOWN), x.watcher(0, 0), x.watcher(1, 0), x.watcher(2, 0), x.watcher(3, 0));
        due.are("the sleepers' sets", Due.row(0, 2, 7, UNKNOWN), x.sleeper(0), x.sleeper(1), x.sleeper(2), x.sleeper(3));
        x.write(0, 11);
        x.write(1, 0);
        due.is("the second entry has number 1", 1, x.judge());
    }

    private static void askingChangesNothing() {
        due.sentence("TRIED from now; nothing changes by it");
        Supplier<SleeplessVillage> busy = Busy::village;
        // the answers are what the busy village shows: hour 11 of nights of three, 8, 37 and 0 tired
        due.leaves("told(7)", 11, busy, x -> x.told(7));
        due.leaves("fault()", NONE, busy, x -> x.fault());
        due.leaves("watcher(1, 0)", 37, busy, x -> x.watcher(1, 0));
        due.leaves("sleeper(3)", 6, busy, x -> x.sleeper(3));
        // 1 rests from 37 to 19; 0 may watch the first hour (16, 12, 8) and not the second too (16, 24, 20)
        due.leaves("watches(-1)", 19, busy, x -> x.watches(NONE));
        due.leaves("watches(0)", 0, busy, x -> x.watches(0));
        due.leaves("watches(1)", 2, busy, x -> x.watches(1));
        due.leaves("watches(3)", NONE, busy, x -> x.watches(3));
        // 1 nods thrice; 0 at 32, but not with a bell or with coffee
        due.leaves("bellHour(1)", 3, busy, x -> x.bellHour(1));
        due.leaves("coffeeFor()", 0, busy, x -> x.coffeeFor());
        due.leaves("nights(0)", 0, busy, x -> x.nights(0));
        due.leaves("nights(2)", 5, busy, x -> x.nights(2));
        due.leaves("hold()", 4, busy, x -> x.hold());
        due.leaves("share(3)", UNKNOWN, busy, x -> x.share(3));
        due.leaves("paid(3)", UNKNOWN, busy, x -> x.paid(3));
        due.leaves("blink(2, 60, 0)", 1000000000, busy, x -> x.blink(2, 60, 0));
        due.leaves("nodded(7, -1)", 1, busy, x -> x.nodded(7, NONE));
        due.leaves("nodded(7, 0)", 3, busy, x -> x.nodded(7, 0));
        due.leaves("nodded(7, 1)", NONE, busy, x -> x.nodded(7, 1));
        due.leaves("askNext(7)", NONE, busy, x -> x.askNext(7));
        due.leaves("judge()", 1, busy, x -> x.judge());
        due.leaves("watches(" + MOST + ")", NONE, busy, x -> x.watches(MOST));
    }
}
