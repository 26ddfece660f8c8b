import java.util.ArrayDeque;
import java.util.ArrayList;
import java.util.Comparator;
import java.util.Deque;
import java.util.HashSet;
import java.util.List;
import java.util.Set;
import java.util.function.IntPredicate;
import java.util.stream.IntStream;

/**
 * The document once more, as slowly and plainly as can be and with the whole library, to compare answers with.
 * It shares no code and no way of going about things with the class that is tested.
 */
final class PlainVillage {
    static final int NONE = -1, UNKNOWN = -1000000001, OUTSIDE = -1000000002, NOT = -1000000003, FULL = -1000000004;

    record Watcher(int tired, int a, int r, int n) { }

    record Deal(int h, int w, int f, int b, List<Watcher> watchers, List<Integer> sleepers) { }

    record Night(int hours, int wool, int fines, int nods, int up, int unwatched, Set<Integer> coffee, List<Integer> tired, List<Integer> watched) { }

    record Image(Night night, long seed) { }

    record Look(int sleeper, boolean up) { }

    record Entry(int watcher, int tired) { }

    private static final Deal NO_DEAL = new Deal(0, 0, 0, 0, List.of(), List.of());

    private String text = "";
    private int fault = NONE;
    private Deal deal = NO_DEAL;
    private Night night = start(NO_DEAL);
    private long seed = 0;
    private final Deque<Night> past = new ArrayDeque<>();
    private final Image[] images = new Image[2];
    private final List<Look> looks = new ArrayList<>();
    private final List<Entry> book = new ArrayList<>();

    private static Night start(Deal deal) {
        return new Night(0, 0, 0, 0, 0, 0, Set.of(), deal.watchers.stream().map(Watcher::tired).toList(),
            deal.watchers.stream().map(w -> 0).toList());
    }

    // ---- the contract

    int feed(int letter) {
        if (letter < 0 || letter > 255) return OUTSIDE;
        if (text.length() == 220) return FULL;
        text += (char) letter;
        return text.length();
    }

    int contract() {
        PlainText read = new PlainText(text);
        text = "";
        fault = read.place;
        if (read.fault != 0) return -10 - read.fault;
        deal = read.deal == null ? NO_DEAL : read.deal;
        night = start(deal);
        past.clear();
        images[0] = null;
        images[1] = null;
        looks.clear();
        book.clear();
        return deal.watchers.size();
    }

    int fault() {
        return fault;
    }

    int told(int what) {
        int[] all = {deal.h, deal.w, deal.f, deal.b, count(), deal.sleepers.size(), text.length(), night.hours, night.wool, night.fines,
            night.nods, night.up, night.unwatched, setOf(night.coffee::contains), looks.size(), book.size(), past.size()};
        return what < 0 || what >= all.length ? OUTSIDE : all[what];
    }

    int watcher(int p, int what) {
        if (strange(p)) return UNKNOWN;
        Watcher w = deal.watchers.get(p);
        int[] all = {night.tired.get(p), w.a, w.r, w.n, night.watched.get(p)};
        return what < 0 || what >= all.length ? OUTSIDE : all[what];
    }

    int sleeper(int s) {
        return s < 0 || s >= deal.sleepers.size() ? UNKNOWN : deal.sleepers.get(s);
    }

    private int count() {
        return deal.watchers.size();
    }

    private boolean strange(int p) {
        return p < 0 || p >= count();
    }

    private boolean strangeSet(int set) {
        return set < 0 || set >= Math.pow(2, count());
    }

    private static int setOf(IntPredicate in) {
        return IntStream.range(0, 8).filter(in).map(k -> 1 << k).sum();
    }

    private static boolean in(int set, int k) {
        return (set / (1 << k)) % 2 == 1;
    }

    // ---- what is done

    private List<Integer> tireAll(List<Integer> tired, int set, boolean bell) {
        List<Integer> after = new ArrayList<>();
        for (int p = 0; p < count(); p++) {
            Watcher w = deal.watchers.get(p);
            int t = tired.get(p);
            if (in(set, p)) {
                if (bell) t = t > deal.b ? t - deal.b : 0;
                t += w.a;
            } else {
                t -= w.r;
            }
            after.add(t < 0 ? 0 : t > 199 ? 199 : t);
        }
        return after;
    }

    private int nodding(List<Integer> after, int set) {
        return setOf(p -> p < count() && in(set, p) && after.get(p) > deal.watchers.get(p).n);
    }

    private boolean sitsUp(int guards, int set, int nods) {
        boolean watched = IntStream.range(0, 6).anyMatch(p -> in(set, p) && !in(nods, p));
        List<Integer> own = IntStream.range(0, 6).filter(p -> in(guards, p) && in(set, p)).boxed().toList();
        if (own.isEmpty()) return !watched;
        return own.stream().allMatch(p -> in(nods, p));
    }

    private Night watched(Night n, int set, boolean bell) {
        List<Integer> after = tireAll(n.tired, set, bell);
        int nods = nodding(after, set);
        int up = setOf(s -> s < deal.sleepers.size() && sitsUp(deal.sleepers.get(s), set, nods));
        boolean seen = nods != set;
        List<Integer> hours = new ArrayList<>();
        for (int p = 0; p < count(); p++) hours.add(n.watched.get(p) + (in(set, p) && !in(nods, p) ? 1 : 0));
        int fines = n.fines;
        for (int s = 0; s < 8; s++) if (in(up, s)) fines += deal.f;
        return new Night(n.hours + 1, Math.min(999999, n.wool + (seen ? deal.w : 0)), Math.min(999999, fines), nods, up,
            n.unwatched + (seen ? 0 : 1), coffeeAt(n, n.hours + 1), after, hours);
    }

    private Set<Integer> coffeeAt(Night n, int hour) {
        return n.hours / deal.h == hour / deal.h ? n.coffee : Set.of();
    }

    private void become(Night next) {
        past.addLast(night);
        if (past.size() > 20) past.removeFirst();
        night = next;
    }

    int hour(int set, boolean bell) {
        if (strangeSet(set)) return UNKNOWN;
        if (deal == NO_DEAL) return NOT;
        if (night.hours > 90000) return FULL;
        become(watched(night, set, bell));
        return night.nods;
    }

    int coffee(int p) {
        if (strange(p)) return UNKNOWN;
        if (night.coffee.contains(p)) return NOT;
        Set<Integer> had = new HashSet<>(night.coffee);
        had.add(p);
        become(new Night(night.hours, night.wool, night.fines, night.nods, night.up, night.unwatched, had, coffeeFor(night.tired, p), night.watched));
        return night.tired.get(p);
    }

    private List<Integer> coffeeFor(List<Integer> tired, int p) {
        List<Integer> after = new ArrayList<>(tired);
        after.set(p, tired.get(p) < 30 ? 0 : tired.get(p) - 30);
        return after;
    }

    private int refused(int n) {
        return n < 1 || n > 60 ? OUTSIDE : deal == NO_DEAL ? NOT : night.hours > 90000 ? FULL : 0;
    }

    int rest(int n) {
        if (refused(n) != 0) return refused(n);
        List<Integer> tired = night.tired;
        for (int i = 0; i < n; i++) tired = tireAll(tired, 0, false);
        become(new Night(night.hours + n, night.wool, night.fines, 0, 0, night.unwatched, coffeeAt(night, night.hours + n), tired, night.watched));
        return night.hours;
    }

    private int draw(int n) {
        seed = (seed * 1103515245L + 12345) % (1L << 31);
        return (int) (seed / 65536 % n);
    }

    int drift(int n) {
        if (refused(n) != 0) return refused(n);
        Night next = night;
        for (int i = 0; i < n; i++) {
            int set = draw((int) Math.pow(2, count()));
            next = watched(next, set, draw(3) == 0);
        }
        become(next);
        return night.hours;
    }

    int undo() {
        if (past.isEmpty()) return NOT;
        night = past.removeLast();
        return past.size();
    }

    // ---- tried

    private List<Integer> plan;
    private int planEnd;

    private void plan(List<Integer> tired, List<Integer> chosen) {
        if (chosen.size() == deal.h) {
            int end = tired.stream().mapToInt(t -> t).max().orElse(0);
            if (plan == null || end < planEnd) {
                plan = chosen;
                planEnd = end;
            }
            return;
        }
        for (int p = 0; p < count(); p++) {
            List<Integer> after = tireAll(tired, 1 << p, false);
            if (nodding(after, 1 << p) != 0) continue;
            List<Integer> longer = new ArrayList<>(chosen);
            longer.add(p);
            plan(after, longer);
        }
    }

    int watches(int i) {
        if (deal == NO_DEAL) return NOT;
        plan = null;
        plan(night.tired, List.of());
        if (plan == null) return NONE;
        if (i == NONE) return planEnd;
        return i < 0 || i >= plan.size() ? NONE : plan.get(i);
    }

    private int nodsOfAll(List<Integer> tired, int bellAt) {
        int sum = 0;
        int all = setOf(p -> p < count());
        for (int h = 0; h < deal.h; h++) {
            tired = tireAll(tired, all, h == bellAt);
            sum += Integer.bitCount(nodding(tired, all));
        }
        return sum;
    }

    int bellHour(int what) {
        if (what != 0 && what != 1) return OUTSIDE;
        if (deal == NO_DEAL) return NOT;
        int best = IntStream.range(0, deal.h).boxed().min(Comparator.comparing(h -> nodsOfAll(night.tired, h))).orElseThrow();
        return what == 0 ? best : nodsOfAll(night.tired, best);
    }

    int coffeeFor() {
        if (deal == NO_DEAL) return NOT;
        return IntStream.range(0, count()).boxed().min(Comparator.comparing(p -> nodsOfAll(coffeeFor(night.tired, p), NONE))).orElse(NONE);
    }

    int nights(int p) {
        if (strange(p)) return UNKNOWN;
        List<Integer> tired = night.tired;
        for (int whole = 0; whole < 100; whole++) {
            for (int h = 0; h < deal.h; h++) {
                tired = tireAll(tired, 1 << p, false);
                if (nodding(tired, 1 << p) != 0) return whole;
            }
        }
        return NONE;
    }

    private boolean holds(int set) {
        Night n = night;
        for (int h = 0; h < deal.h; h++) {
            Night next = watched(n, set, false);
            if (next.unwatched != n.unwatched) return false;
            n = next;
        }
        return true;
    }

    int hold() {
        if (deal == NO_DEAL) return NOT;
        return IntStream.range(0, 1 << count()).boxed().filter(this::holds).min(Comparator.comparing(Integer::bitCount)).orElse(NONE);
    }

    private long part(int p, long whole) {
        long all = night.watched.stream().mapToLong(h -> h).sum();
        return all == 0 ? 0 : whole * night.watched.get(p) / all;
    }

    int share(int p) {
        return strange(p) ? UNKNOWN : (int) part(p, 1000);
    }

    int paid(int p) {
        return strange(p) ? UNKNOWN : (int) part(p, night.wool > night.fines ? night.wool - night.fines : 0);
    }

    int blink(int p, int n, int q) {
        if (strange(p)) return UNKNOWN;
        if (n < 0 || n > 60 || q < 0 || q > 100) return OUTSIDE;
        int each = q + night.tired.get(p) / 10;
        long odds = 1000000000L;
        for (int i = 0; i < n; i++) odds = each > 100 ? 0 : odds * (100 - each) / 100;
        return (int) odds;
    }

    // ---- what is seen

    int see(int s, boolean up) {
        if (s < 0 || s >= deal.sleepers.size()) return UNKNOWN;
        if (looks.size() == 8) return FULL;
        looks.add(new Look(s, up));
        return looks.size();
    }

    private List<Integer> fitting(int set) {
        return IntStream.range(0, 64).boxed().filter(x -> (x | set) == set)
            .filter(x -> looks.stream().allMatch(look -> sitsUp(deal.sleepers.get(look.sleeper), set, x) == look.up))
            .sorted(Comparator.<Integer, Integer>comparing(Integer::bitCount).thenComparing(x -> x)).toList();
    }

    int nodded(int set, int i) {
        if (strangeSet(set)) return UNKNOWN;
        List<Integer> all = fitting(set);
        if (i == NONE) return all.size();
        if (i == -2) return all.stream().reduce((x, y) -> x & y).orElse(0);
        return i < 0 || i >= all.size() ? NONE : all.get(i);
    }

    int askNext(int set) {
        if (strangeSet(set)) return UNKNOWN;
        List<Integer> all = fitting(set);
        int best = NONE;
        long least = 0;
        for (int s = 0; s < deal.sleepers.size(); s++) {
            int guards = deal.sleepers.get(s);
            long up = all.stream().filter(x -> sitsUp(guards, set, x)).count();
            long asleep = all.size() - up;
            if (up == 0 || asleep == 0) continue;
            if (best == NONE || Math.max(up, asleep) < least) {
                best = s;
                least = Math.max(up, asleep);
            }
        }
        return best;
    }

    int write(int p, int tired) {
        if (strange(p)) return UNKNOWN;
        if (tired < 0 || tired > 199) return OUTSIDE;
        if (book.size() == 15) return FULL;
        book.add(new Entry(p, tired));
        return book.size();
    }

    int tear() {
        int had = looks.size() + book.size();
        looks.clear();
        book.clear();
        return had;
    }

    int judge() {
        for (Entry e : book) if (night.tired.get(e.watcher) != e.tired) return book.indexOf(e);
        return NONE;
    }

    // ---- draws, images

    int seed(int v) {
        if (v < 0) return OUTSIDE;
        int was = (int) seed;
        seed = v;
        return was;
    }

    int keep(int i) {
        if (i != 0 && i != 1) return UNKNOWN;
        images[i] = new Image(night, seed);
        past.clear();
        return 1;
    }

    int goBack(int i) {
        if (i != 0 && i != 1) return UNKNOWN;
        if (images[i] == null) return NOT;
        night = images[i].night;
        seed = images[i].seed;
        past.clear();
        return 1;
    }
}
