/** Villages in the midst of everything, so that whatever a refused call might spoil is there to be spoiled. */
final class Busy {
    static final String THREE = "k3 10 7 5;p10 8 4 30;p0 12 6 25;p40 3 10 45;s1;s3;s4;s6;s0;";

    private Busy() {
    }

    /** Images, something to undo, coffee had, a nod, one who sat up, things seen, a book, a seed; and half a text. */
    static SleeplessVillage village() {
        SleeplessVillage x = withoutText();
        Due.feed(x, "k2 1 2 3;p");
        return x;
    }

    static SleeplessVillage withoutText() {
        SleeplessVillage x = Due.village(THREE);
        x.seed(7);
        x.drift(2);
        x.keep(0);
        x.hour(4, false);
        x.hour(5, true);
        x.keep(1);
        x.seed(11);
        x.rest(1);
        x.drift(3);
        x.hour(2, false);
        x.hour(3, true);
        x.coffee(0);
        x.hour(3, false);
        x.see(1, true);
        x.see(2, false);
        x.write(1, x.watcher(1, 0));
        x.write(0, 77);
        return x;
    }

    /** With less to undo: all its letters and all that is read of it have to come within 512 calls. */
    static SleeplessVillage withFullText() {
        SleeplessVillage x = withoutText();
        x.undo();
        x.undo();
        Due.feed(x, "k2 1 2 3;" + " ".repeat(210) + "p");
        return x;
    }

    static SleeplessVillage withAllSeen() {
        SleeplessVillage x = village();
        for (int i = 0; i < 6; i++) x.see(2, false);
        return x;
    }

    /** Every entry is right, so that one that is spoiled shows. */
    static SleeplessVillage withFullBook() {
        SleeplessVillage x = village();
        x.tear();
        for (int i = 0; i < 15; i++) x.write(i % 3, x.watcher(i % 3, 0));
        return x;
    }

    static SleeplessVillage justKept() {
        SleeplessVillage x = village();
        x.keep(0);
        return x;
    }

    /** Neither image is kept, and there is something to undo. */
    static SleeplessVillage withoutImages() {
        SleeplessVillage x = Due.village(THREE);
        x.seed(5);
        x.hour(7, false);
        x.hour(4, false);
        x.coffee(1);
        x.see(0, true);
        x.write(0, 9);
        Due.feed(x, "k1");
        return x;
    }

    /** No contract, but a seed, an image and half a text. */
    static SleeplessVillage withoutContract() {
        SleeplessVillage x = new SleeplessVillage();
        x.seed(21);
        x.keep(1);
        x.seed(22);
        Due.feed(x, "k2 1");
        return x;
    }

    /** So late that hours are full. It takes more calls than are promised; no run of 512 gets there. */
    static SleeplessVillage atHour(int hours) {
        SleeplessVillage x = Due.village(THREE);
        x.seed(3);
        for (int i = 0; i < hours / 60; i++) x.rest(60);
        for (int i = 0; i < hours % 60; i++) x.rest(1);
        return x;
    }
}
