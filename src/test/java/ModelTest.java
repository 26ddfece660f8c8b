import java.util.ArrayList;
import java.util.Collections;
import java.util.List;
import java.util.Random;

/** Runs of random calls, each answer compared with the plain model's; the same runs every time. */
public final class ModelTest {
    private static final int RUNS = 1500, CALLS = 512;
    private static final Due due = new Due("ModelTest");

    private final Random random;
    private final int run;
    private final SleeplessVillage real = new SleeplessVillage();
    private final PlainVillage model = new PlainVillage();
    private int calls = 0;

    private ModelTest(int run) {
        this.run = run;
        this.random = new Random(run * 7919L + 13);
    }

    public static void main(String[] args) {
        for (int run = 0; run < RUNS; run++) new ModelTest(run).go();
        textsAlone();
        due.close();
    }

    private void go() {
        while (calls < CALLS) {
            tell(random.nextInt(5) == 0 ? spoiled(wholeText()) : wholeText());
            int some = 40 + random.nextInt(200);
            for (int i = 0; i < some && calls < CALLS; i++) anyCall();
        }
    }

    private static void textsAlone() {
        for (int i = 0; i < 400; i++) {
            ModelTest test = new ModelTest(RUNS + i);
            for (int j = 0; j < 10 && test.calls < CALLS; j++) test.tell(test.spoiled(test.wholeText()));
        }
    }

    /** Behind the last call that is promised both go on, but what they answer is free. */
    private void same(String call, int want, int got) {
        calls++;
        if (calls <= CALLS) due.is("run " + run + ", call " + calls + ": " + call, want, got);
    }

    private void tell(String text) {
        for (int i = 0; i < text.length(); i++) {
            int letter = text.charAt(i);
            same("feed(" + letter + ")", model.feed(letter), real.feed(letter));
        }
        same("contract() of \"" + text + "\"", model.contract(), real.contract());
        same("fault() of \"" + text + "\"", model.fault(), real.fault());
    }

    private int upTo(int most) {
        return random.nextInt(most + 1);
    }

    private String wholeText() {
        StringBuilder text = new StringBuilder();
        int hours = random.nextInt(4) == 0 ? 1 + upTo(5) : 1 + upTo(3);
        text.append("k").append(hours).append(" ").append(upTo(99)).append(" ").append(upTo(99)).append(" ").append(upTo(20)).append(";");
        int watchers = hours > 4 ? upTo(3) : upTo(6);
        List<String> clauses = new ArrayList<>();
        for (int p = 0; p < watchers; p++) clauses.add(watcherClause());
        int sleepers = upTo(8);
        for (int s = 0; s < sleepers; s++) clauses.add("s" + random.nextInt(1 << watchers) + ";");
        // sleepers ahead of their watchers are faults, or not
        if (random.nextInt(8) == 0) Collections.shuffle(clauses, random);
        for (String clause : clauses) text.append(clause);
        return text.toString();
    }

    private String watcherClause() {
        // slow ones and quick ones, so that plans are found as well as not
        int most = random.nextBoolean() ? 30 : 4;
        return "p" + upTo(random.nextBoolean() ? 99 : 20) + " " + upTo(most) + " " + upTo(most) + " " + upTo(99) + ";";
    }

    private String spoiled(String good) {
        StringBuilder text = new StringBuilder(good);
        int spots = random.nextInt(4);
        for (int i = 0; i < spots && text.length() > 0; i++) spoil(text);
        return text.length() > 230 ? text.substring(0, 230) : text.toString();
    }

    private void spoil(StringBuilder text) {
        int at = random.nextInt(text.length());
        String signs = "kps; 0123456789x-";
        char sign = random.nextInt(30) == 0 ? (char) random.nextInt(256) : signs.charAt(random.nextInt(signs.length()));
        switch (random.nextInt(5)) {
            case 0: text.setCharAt(at, sign); break;
            case 1: text.insert(at, sign); break;
            case 2: text.deleteCharAt(at); break;
            case 3: text.setLength(at); break;
            default: text.append(wholeText(), 0, random.nextInt(9)); break;
        }
    }

    /** Mostly a number that there is, at times one beside it or far off. */
    private int number(int below) {
        int kind = random.nextInt(40);
        if (kind == 0) return -1 - random.nextInt(3);
        if (kind == 1) return below + random.nextInt(3);
        if (kind == 2) return random.nextInt();
        return below <= 0 ? 0 : random.nextInt(below);
    }

    private void anyCall() {
        int kind = random.nextInt(100);
        if (kind < 35) done();
        else if (kind < 65) asked();
        else if (kind < 80) tried();
        else if (kind < 95) seen();
        else kept();
    }

    private void done() {
        int p = number(model.told(4)), set = number(1 << model.told(4)), n = 1 + number(random.nextInt(8) == 0 ? 60 : 5);
        boolean bell = random.nextInt(3) == 0;
        switch (random.nextInt(9)) {
            case 0: same("coffee(" + p + ")", model.coffee(p), real.coffee(p)); break;
            case 1: same("rest(" + n + ")", model.rest(n), real.rest(n)); break;
            case 2: same("drift(" + n + ")", model.drift(n), real.drift(n)); break;
            case 3: case 4: same("undo()", model.undo(), real.undo()); break;
            default: same("hour(" + set + ", " + bell + ")", model.hour(set, bell), real.hour(set, bell)); break;
        }
    }

    private void asked() {
        int p = number(model.told(4)), what = number(5), s = number(model.told(5)), about = number(17);
        switch (random.nextInt(6)) {
            case 0: same("sleeper(" + s + ")", model.sleeper(s), real.sleeper(s)); break;
            case 1: case 2: same("watcher(" + p + ", " + what + ")", model.watcher(p, what), real.watcher(p, what)); break;
            case 3: same("fault()", model.fault(), real.fault()); break;
            default: same("told(" + about + ")", model.told(about), real.told(about)); break;
        }
    }

    private void tried() {
        int p = number(model.told(4)), i = number(8) - 1, n = number(61), q = number(101), what = number(2);
        switch (random.nextInt(8)) {
            case 0: same("watches(" + i + ")", model.watches(i), real.watches(i)); break;
            case 1: same("bellHour(" + what + ")", model.bellHour(what), real.bellHour(what)); break;
            case 2: same("coffeeFor()", model.coffeeFor(), real.coffeeFor()); break;
            case 3: same("nights(" + p + ")", model.nights(p), real.nights(p)); break;
            case 4: same("hold()", model.hold(), real.hold()); break;
            case 5: same("share(" + p + ")", model.share(p), real.share(p)); break;
            case 6: same("paid(" + p + ")", model.paid(p), real.paid(p)); break;
            default: same("blink(" + p + ", " + n + ", " + q + ")", model.blink(p, n, q), real.blink(p, n, q)); break;
        }
    }

    private void seen() {
        int p = number(model.told(4)), s = number(model.told(5)), set = number(1 << model.told(4)), i = number(12) - 3;
        int tired = random.nextBoolean() && p >= 0 && p < model.told(4) ? model.watcher(p, 0) : number(200);
        boolean up = random.nextBoolean();
        switch (random.nextInt(12)) {
            case 0: case 1: same("see(" + s + ", " + up + ")", model.see(s, up), real.see(s, up)); break;
            case 2: case 3: case 4: same("nodded(" + set + ", " + i + ")", model.nodded(set, i), real.nodded(set, i)); break;
            case 5: case 6: same("askNext(" + set + ")", model.askNext(set), real.askNext(set)); break;
            case 7: case 8: same("write(" + p + ", " + tired + ")", model.write(p, tired), real.write(p, tired)); break;
            case 9: case 10: same("judge()", model.judge(), real.judge()); break;
            default: if (random.nextInt(3) == 0) same("tear()", model.tear(), real.tear()); break;
        }
    }

    private void kept() {
        int v = random.nextInt(), i = number(2);
        switch (random.nextInt(4)) {
            case 0: same("seed(" + v + ")", model.seed(v), real.seed(v)); break;
            case 1: same("keep(" + i + ")", model.keep(i), real.keep(i)); break;
            default: same("goBack(" + i + ")", model.goBack(i), real.goBack(i)); break;
        }
    }
}
