import java.util.Arrays;

/**
 * What calls show of an object, so that two can be compared; reading it uses the object up. Of the book it has the count
 * and what judge() answers now and behind each undo(): no call lists the entries.
 */
final class Whole {
    private static final int NONE = SleeplessVillage.NONE;
    private final SleeplessVillage x;
    private final int watchers;
    private int[] answers = new int[700];
    private int count = 0;

    private Whole(SleeplessVillage x) {
        this.x = x;
        this.watchers = x.told(4);
    }

    static int[] of(SleeplessVillage x) {
        Whole whole = new Whole(x);
        whole.readAll();
        return Arrays.copyOf(whole.answers, whole.count);
    }

    /** The same without fault(), the one thing that a text with a fault changes. */
    static int[] butFault(SleeplessVillage x) {
        int[] all = of(x);
        return Arrays.copyOfRange(all, 1, all.length);
    }

    private void note(int answer) {
        if (count == answers.length) answers = Arrays.copyOf(answers, 2 * count);
        answers[count] = answer;
        count++;
    }

    // what is undone comes ahead of the images and these ahead of the text: each takes away what came before it
    private void readAll() {
        note(x.fault());
        for (int what = 0; what <= 16; what++) note(x.told(what));
        readSeed();
        readContract();
        readTried();
        readSeen();
        readUndone();
        readImage(0);
        readImage(1);
        note(x.tear());
        note(x.contract());
        note(x.fault());
        for (int what = 0; what <= 5; what++) note(x.told(what));
        readSeed();
    }

    private void readContract() {
        for (int p = 0; p < watchers; p++) for (int what = 1; what <= 3; what++) note(x.watcher(p, what));
        int sleepers = x.told(5);
        for (int s = 0; s < sleepers; s++) note(x.sleeper(s));
    }

    private void readTried() {
        int hours = x.told(0);
        for (int i = NONE; i < hours; i++) note(x.watches(i));
        note(x.bellHour(0));
        note(x.bellHour(1));
        note(x.coffeeFor());
        note(x.hold());
        for (int p = 0; p < watchers; p++) {
            note(x.nights(p));
            note(x.share(p));
            note(x.paid(p));
            note(x.blink(p, 5, 5));
        }
    }

    private void readSeen() {
        for (int set = 0; set < 1 << watchers; set++) {
            note(x.nodded(set, NONE));
            note(x.nodded(set, -2));
            note(x.askNext(set));
        }
        note(x.judge());
    }

    private void readNight() {
        for (int what = 7; what <= 13; what++) note(x.told(what));
        for (int p = 0; p < watchers; p++) {
            note(x.watcher(p, 0));
            note(x.watcher(p, 4));
        }
    }

    private void readUndone() {
        readNight();
        for (int i = 0; i <= 20; i++) {
            int left = x.undo();
            note(left);
            if (left < 0) return;
            readNight();
            note(x.judge());
        }
    }

    private void readImage(int i) {
        int back = x.goBack(i);
        note(back);
        if (back != 1) return;
        readNight();
        readSeed();
    }

    private void readSeed() {
        int seed = x.seed(0);
        note(seed);
        x.seed(seed);
    }
}
