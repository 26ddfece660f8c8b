/**
 * The village that watches so that another one may sleep. Every call answers a number; a call that is
 * refused answers one of the constants below and changes nothing.
 */
public final class SleeplessVillage {
    public static final int NONE = -1, UNKNOWN = -1000000001, OUTSIDE = -1000000002, NOT = -1000000003, FULL = -1000000004;

    private static final int MOST_LETTERS = 220, MOST_FIGURES = 3;
    private static final int MOST_WATCHERS = 6, MOST_SLEEPERS = 8, MOST_NIGHT_HOURS = 6;
    private static final int MOST_TIRED = 199, MOST_PAID = 999999, MOST_HOURS_AT_ONCE = 60, LAST_HOUR = 90000;
    private static final int COFFEE_HELP = 30, NIGHTS_TRIED = 100, BILLION = 1000000000;
    private static final int MOST_UNDONE = 20, MOST_SEEN = 8, MOST_ENTRIES = 15, IMAGES = 2;
    private static final int NO_FAULT = 0, MISPLACED = 1, BAD_NUMBER = 2, TOO_MANY = 3, FAULT_BASE = -10;
    private static final int SURE = -2;

    private final Reader reader = new Reader();
    private final Contract terms = new Contract();
    private final State now = new State();
    private final History history = new History();
    private final Album album = new Album();
    private final Draws draws = new Draws();
    private final Trial trial = new Trial();
    private final Seen seen = new Seen();
    private final Book book = new Book();

    public SleeplessVillage() {
    }

    // ---- the contract

    public int feed(int letter) {
        if (letter < 0 || letter > 255) return OUTSIDE;
        if (!reader.append(letter)) return FULL;
        return reader.length;
    }

    public int contract() {
        int kind = reader.readText();
        if (kind != NO_FAULT) return FAULT_BASE - kind;
        terms.copyFrom(reader.draft);
        now.begin(terms);
        history.clear();
        album.clear();
        seen.clear();
        book.clear();
        return terms.watchers;
    }

    public int fault() {
        return reader.faultPlace;
    }

    public int told(int what) {
        switch (what) {
            case 0: return terms.nightHours;
            case 1: return terms.wool;
            case 2: return terms.fine;
            case 3: return terms.bell;
            case 4: return terms.watchers;
            case 5: return terms.sleepers;
            case 6: return reader.length;
            case 7: return now.hours;
            case 8: return now.wool;
            case 9: return now.fines;
            case 10: return now.nods;
            case 11: return now.satUp;
            case 12: return now.unwatched;
            case 13: return now.hadCoffee;
            case 14: return seen.count;
            case 15: return book.count;
            case 16: return history.count;
            default: return OUTSIDE;
        }
    }

    public int watcher(int p, int what) {
        if (!terms.hasWatcher(p)) return UNKNOWN;
        switch (what) {
            case 0: return now.tired[p];
            case 1: return terms.more[p];
            case 2: return terms.less[p];
            case 3: return terms.limit[p];
            case 4: return now.awake[p];
            default: return OUTSIDE;
        }
    }

    public int sleeper(int s) {
        if (!terms.hasSleeper(s)) return UNKNOWN;
        return terms.guards[s];
    }

    // ---- what is done

    public int hour(int set, boolean bell) {
        if (!terms.hasAll(set)) return UNKNOWN;
        if (!terms.stands()) return NOT;
        if (now.hours > LAST_HOUR) return FULL;
        history.remember(now);
        now.passWatched(terms, set, bell);
        return now.nods;
    }

    public int coffee(int p) {
        if (!terms.hasWatcher(p)) return UNKNOWN;
        if ((now.hadCoffee >> p & 1) != 0) return NOT;
        history.remember(now);
        now.hadCoffee |= 1 << p;
        now.tired[p] = afterCoffee(now.tired[p]);
        return now.tired[p];
    }

    public int rest(int n) {
        int refusal = refusalOfHours(n);
        if (refusal != NONE) return refusal;
        history.remember(now);
        for (int h = 0; h < n && h < MOST_HOURS_AT_ONCE; h++) now.passResting(terms);
        return now.hours;
    }

    public int drift(int n) {
        int refusal = refusalOfHours(n);
        if (refusal != NONE) return refusal;
        history.remember(now);
        for (int h = 0; h < n && h < MOST_HOURS_AT_ONCE; h++) {
            int set = draws.draw(1 << terms.watchers);
            boolean bell = draws.draw(3) == 0;
            now.passWatched(terms, set, bell);
        }
        return now.hours;
    }

    public int undo() {
        if (!history.recall(now)) return NOT;
        return history.count;
    }

    // ---- tried

    public int watches(int i) {
        if (!terms.stands()) return NOT;
        if (!trial.findWatches(terms, now)) return NONE;
        if (i == NONE) return trial.leastEnd;
        if (i < 0 || i >= terms.nightHours || i >= MOST_NIGHT_HOURS) return NONE;
        return trial.bestWatches[i];
    }

    public int bellHour(int what) {
        if (what != 0 && what != 1) return OUTSIDE;
        if (!terms.stands()) return NOT;
        int best = 0;
        int fewest = trial.nodsWithBell(terms, now, 0);
        for (int h = 1; h < terms.nightHours && h < MOST_NIGHT_HOURS; h++) {
            int nods = trial.nodsWithBell(terms, now, h);
            if (nods < fewest) {
                fewest = nods;
                best = h;
            }
        }
        return what == 0 ? best : fewest;
    }

    public int coffeeFor() {
        if (!terms.stands()) return NOT;
        int best = NONE;
        int fewest = 0;
        for (int p = 0; p < terms.watchers && p < MOST_WATCHERS; p++) {
            int nods = trial.nodsWithCoffee(terms, now, p);
            if (best == NONE || nods < fewest) {
                fewest = nods;
                best = p;
            }
        }
        return best;
    }

    public int nights(int p) {
        if (!terms.hasWatcher(p)) return UNKNOWN;
        return trial.nightsOf(terms, now, p);
    }

    public int hold() {
        if (!terms.stands()) return NOT;
        return trial.fewestHolding(terms, now);
    }

    public int share(int p) {
        if (!terms.hasWatcher(p)) return UNKNOWN;
        return now.partOf(p, 1000);
    }

    public int paid(int p) {
        if (!terms.hasWatcher(p)) return UNKNOWN;
        return now.partOf(p, Math.max(0, now.wool - now.fines));
    }

    public int blink(int p, int n, int q) {
        if (!terms.hasWatcher(p)) return UNKNOWN;
        if (n < 0 || n > MOST_HOURS_AT_ONCE || q < 0 || q > 100) return OUTSIDE;
        int blinks = Math.min(100, q + now.tired[p] / 10);
        long odds = BILLION;
        for (int h = 0; h < n && h < MOST_HOURS_AT_ONCE; h++) odds = odds * (100 - blinks) / 100;
        return (int) odds;
    }

    // ---- what is seen

    public int see(int s, boolean up) {
        if (!terms.hasSleeper(s)) return UNKNOWN;
        if (!seen.append(s, up)) return FULL;
        return seen.count;
    }

    public int nodded(int set, int i) {
        if (!terms.hasAll(set)) return UNKNOWN;
        if (i == NONE) return seen.countFitting(terms, set);
        if (i == SURE) return seen.inAllFitting(terms, set);
        return seen.fittingAt(terms, set, i);
    }

    public int askNext(int set) {
        if (!terms.hasAll(set)) return UNKNOWN;
        return seen.bestToAsk(terms, set);
    }

    public int write(int p, int tired) {
        if (!terms.hasWatcher(p)) return UNKNOWN;
        if (tired < 0 || tired > MOST_TIRED) return OUTSIDE;
        if (!book.append(p, tired)) return FULL;
        return book.count;
    }

    public int tear() {
        int had = seen.count + book.count;
        seen.clear();
        book.clear();
        return had;
    }

    public int judge() {
        return book.firstWrong(now);
    }

    // ---- draws, images

    public int seed(int v) {
        if (v < 0) return OUTSIDE;
        int was = draws.value;
        draws.value = v;
        return was;
    }

    public int keep(int i) {
        if (!album.hasPlace(i)) return UNKNOWN;
        album.store(i, now, draws);
        history.clear();
        return 1;
    }

    public int goBack(int i) {
        if (!album.hasPlace(i)) return UNKNOWN;
        if (!album.load(i, now, draws)) return NOT;
        history.clear();
        return 1;
    }

    /** What rest() and drift() refuse alike; NONE if they go on. */
    private int refusalOfHours(int n) {
        if (n < 1 || n > MOST_HOURS_AT_ONCE) return OUTSIDE;
        if (!terms.stands()) return NOT;
        if (now.hours > LAST_HOUR) return FULL;
        return NONE;
    }

    private static int afterCoffee(int tired) {
        return Math.max(0, tired - COFFEE_HELP);
    }

    /** What a text tells: it stays as it is till another text is read. */
    private static final class Contract {
        int nightHours, wool, fine, bell, watchers, sleepers;
        final int[] tiredAtFirst = new int[MOST_WATCHERS];
        final int[] more = new int[MOST_WATCHERS];
        final int[] less = new int[MOST_WATCHERS];
        final int[] limit = new int[MOST_WATCHERS];
        final int[] guards = new int[MOST_SLEEPERS];

        void clear() {
            nightHours = 0;
            wool = 0;
            fine = 0;
            bell = 0;
            watchers = 0;
            sleepers = 0;
        }

        void copyFrom(Contract other) {
            nightHours = other.nightHours;
            wool = other.wool;
            fine = other.fine;
            bell = other.bell;
            watchers = other.watchers;
            sleepers = other.sleepers;
            System.arraycopy(other.tiredAtFirst, 0, tiredAtFirst, 0, MOST_WATCHERS);
            System.arraycopy(other.more, 0, more, 0, MOST_WATCHERS);
            System.arraycopy(other.less, 0, less, 0, MOST_WATCHERS);
            System.arraycopy(other.limit, 0, limit, 0, MOST_WATCHERS);
            System.arraycopy(other.guards, 0, guards, 0, MOST_SLEEPERS);
        }

        /** A night has an hour at least, so none at all means that there is no contract. */
        boolean stands() {
            return nightHours > 0;
        }

        boolean hasWatcher(int p) {
            return p >= 0 && p < watchers && p < MOST_WATCHERS;
        }

        boolean hasSleeper(int s) {
            return s >= 0 && s < sleepers && s < MOST_SLEEPERS;
        }

        int everybody() {
            return (1 << watchers) - 1;
        }

        boolean hasAll(int set) {
            return (set & ~everybody()) == 0;
        }

        void addWatcher(int tired, int a, int r, int n) {
            if (watchers < 0 || watchers >= MOST_WATCHERS) return;
            tiredAtFirst[watchers] = tired;
            more[watchers] = a;
            less[watchers] = r;
            limit[watchers] = n;
            watchers++;
        }

        void addSleeper(int set) {
            if (sleepers < 0 || sleepers >= MOST_SLEEPERS) return;
            guards[sleepers] = set;
            sleepers++;
        }

        /** Tires and rests a row of all watchers by one hour: who nods. */
        int spendHour(int[] tired, int set, boolean rung) {
            int nods = 0;
            for (int p = 0; p < watchers && p < MOST_WATCHERS; p++) {
                if ((set >> p & 1) != 0) {
                    int eased = rung ? Math.max(0, tired[p] - bell) : tired[p];
                    tired[p] = Math.min(MOST_TIRED, eased + more[p]);
                    if (tired[p] > limit[p]) nods |= 1 << p;
                } else {
                    tired[p] = Math.max(0, tired[p] - less[p]);
                }
            }
            return nods;
        }

        /** Whether a sleeper sits up in an hour in which a set watches and some of it nod. */
        boolean sitsUp(int s, int set, int nods) {
            if (!hasSleeper(s)) return false;
            int own = guards[s] & set;
            // without a guard of his own on watch he relies on whoever watches at all
            int relied = own == 0 ? set : own;
            return (relied & ~nods) == 0;
        }

        int allSittingUp(int set, int nods) {
            int up = 0;
            for (int s = 0; s < sleepers && s < MOST_SLEEPERS; s++) {
                if (sitsUp(s, set, nods)) up |= 1 << s;
            }
            return up;
        }
    }

    /** Holds the text letter by letter and reads it into a draft, up to the first fault. */
    private static final class Reader {
        final Contract draft = new Contract();
        int length;
        int faultPlace = NONE;
        private final int[] letters = new int[MOST_LETTERS];
        private int place;
        private int faultKind;

        boolean append(int letter) {
            if (length < 0 || length >= MOST_LETTERS) return false;
            letters[length] = letter;
            length++;
            return true;
        }

        /** Reads the text and empties it: the number of its fault. */
        int readText() {
            draft.clear();
            place = 0;
            faultKind = NO_FAULT;
            faultPlace = NONE;
            skipBlanks();
            for (int clause = 0; clause < MOST_LETTERS && place < length && faultKind == NO_FAULT; clause++) {
                readClause();
                skipBlanks();
            }
            length = 0;
            return faultKind;
        }

        private void readClause() {
            int word = letterHere();
            int kind = faultOfWord(word);
            if (kind != NO_FAULT) {
                blame(kind, place);
                return;
            }
            place++;
            if (word == 'k') readNight();
            else if (word == 'p') readWatcher();
            else readSleeper();
        }

        private int faultOfWord(int word) {
            boolean first = !draft.stands();
            if (word == 'k') return first ? NO_FAULT : TOO_MANY;
            if (first || word != 'p' && word != 's') return MISPLACED;
            boolean full = word == 'p' ? draft.watchers >= MOST_WATCHERS : draft.sleepers >= MOST_SLEEPERS;
            return full ? TOO_MANY : NO_FAULT;
        }

        private void readNight() {
            draft.nightHours = readNumber(1, MOST_NIGHT_HOURS);
            draft.wool = readNumber(0, 99);
            draft.fine = readNumber(0, 99);
            draft.bell = readNumber(0, 20);
            readEnd();
        }

        private void readWatcher() {
            int tired = readNumber(0, 99);
            int more = readNumber(0, 30);
            int less = readNumber(0, 30);
            int limit = readNumber(0, 99);
            readEnd();
            draft.addWatcher(tired, more, less, limit);
        }

        private void readSleeper() {
            // watchers are told in rising order, so a set has strange bits just when it is above the set of all
            int set = readNumber(0, draft.everybody());
            readEnd();
            draft.addSleeper(set);
        }

        /** Nothing is read behind a fault: the first one stays. */
        private int readNumber(int least, int most) {
            if (faultKind != NO_FAULT) return least;
            skipBlanks();
            int start = place;
            int value = 0;
            int figures = 0;
            while (place < length && isFigure(letterHere())) {
                figures++;
                if (figures <= MOST_FIGURES) value = value * 10 + letterHere() - '0';
                place++;
            }
            if (figures == 0) blame(MISPLACED, start);
            else if (figures > MOST_FIGURES || value < least || value > most) blame(BAD_NUMBER, start);
            return value;
        }

        private void readEnd() {
            if (faultKind != NO_FAULT) return;
            skipBlanks();
            if (letterHere() == ';') place++;
            else blame(MISPLACED, place);
        }

        private void skipBlanks() {
            while (place < length && letterHere() == ' ') place++;
        }

        private int letterHere() {
            if (place < 0 || place >= length || place >= MOST_LETTERS) return NONE;
            return letters[place];
        }

        private void blame(int kind, int where) {
            faultKind = kind;
            faultPlace = where;
        }

        private static boolean isFigure(int letter) {
            return letter >= '0' && letter <= '9';
        }
    }

    /** All that hours, coffee and rest change: what can be undone and what images keep. */
    private static final class State {
        int hours, wool, fines, nods, satUp, unwatched, hadCoffee;
        final int[] tired = new int[MOST_WATCHERS];
        final int[] awake = new int[MOST_WATCHERS];

        void begin(Contract terms) {
            hours = 0;
            wool = 0;
            fines = 0;
            nods = 0;
            satUp = 0;
            unwatched = 0;
            hadCoffee = 0;
            for (int p = 0; p < MOST_WATCHERS; p++) {
                tired[p] = terms.tiredAtFirst[p];
                awake[p] = 0;
            }
        }

        void copyFrom(State other) {
            hours = other.hours;
            wool = other.wool;
            fines = other.fines;
            nods = other.nods;
            satUp = other.satUp;
            unwatched = other.unwatched;
            hadCoffee = other.hadCoffee;
            System.arraycopy(other.tired, 0, tired, 0, MOST_WATCHERS);
            System.arraycopy(other.awake, 0, awake, 0, MOST_WATCHERS);
        }

        void passWatched(Contract terms, int set, boolean rung) {
            nods = terms.spendHour(tired, set, rung);
            satUp = terms.allSittingUp(set, nods);
            int watching = set & ~nods;
            if (watching == 0) unwatched++;
            else wool = Math.min(MOST_PAID, wool + terms.wool);
            fines = Math.min(MOST_PAID, fines + terms.fine * Integer.bitCount(satUp));
            for (int p = 0; p < MOST_WATCHERS; p++) awake[p] += watching >> p & 1;
            endHour(terms);
        }

        void passResting(Contract terms) {
            terms.spendHour(tired, 0, false);
            nods = 0;
            satUp = 0;
            endHour(terms);
        }

        private void endHour(Contract terms) {
            hours++;
            if (terms.nightHours > 0 && hours % terms.nightHours == 0) hadCoffee = 0;
        }

        /** A watcher's part of a whole, by the hours that he was awake on watch; 0 if nobody was. */
        int partOf(int p, int whole) {
            if (p < 0 || p >= MOST_WATCHERS) return 0;
            long all = 0;
            for (int other = 0; other < MOST_WATCHERS; other++) all += awake[other];
            if (all <= 0) return 0;
            return (int) ((long) whole * awake[p] / all);
        }
    }

    /** The latest states, in a ring: the oldest is written over. */
    private static final class History {
        int count;
        private int next;
        private final State[] past = new State[MOST_UNDONE];

        History() {
            for (int i = 0; i < MOST_UNDONE; i++) past[i] = new State();
        }

        void clear() {
            count = 0;
            next = 0;
        }

        void remember(State now) {
            if (next < 0 || next >= MOST_UNDONE || past[next] == null) return;
            past[next].copyFrom(now);
            next = (next + 1) % MOST_UNDONE;
            count = Math.min(MOST_UNDONE, count + 1);
        }

        boolean recall(State now) {
            if (count <= 0) return false;
            int latest = (next + MOST_UNDONE - 1) % MOST_UNDONE;
            if (latest < 0 || past[latest] == null) return false;
            now.copyFrom(past[latest]);
            next = latest;
            count--;
            return true;
        }
    }

    /** The images, each with the seed that was when it was kept. */
    private static final class Album {
        private final State[] images = new State[IMAGES];
        private final int[] seeds = new int[IMAGES];
        private final boolean[] kept = new boolean[IMAGES];

        Album() {
            for (int i = 0; i < IMAGES; i++) images[i] = new State();
        }

        void clear() {
            for (int i = 0; i < IMAGES; i++) kept[i] = false;
        }

        boolean hasPlace(int i) {
            return i >= 0 && i < IMAGES;
        }

        void store(int i, State now, Draws draws) {
            if (!hasPlace(i) || images[i] == null) return;
            images[i].copyFrom(now);
            seeds[i] = draws.value;
            kept[i] = true;
        }

        boolean load(int i, State now, Draws draws) {
            if (!hasPlace(i) || images[i] == null || !kept[i]) return false;
            now.copyFrom(images[i]);
            draws.value = seeds[i];
            return true;
        }
    }

    /** The seed and what is drawn by it. */
    private static final class Draws {
        int value;

        int draw(int n) {
            value = (int) ((value * 1103515245L + 12345L) & 0x7fffffffL);
            if (n <= 0) return 0;
            return value / 65536 % n;
        }
    }

    /** Tries coming hours on rows of its own, so that nothing changes by it. */
    private static final class Trial {
        final int[] bestWatches = new int[MOST_NIGHT_HOURS];
        int leastEnd;
        private final int[][] rows = new int[MOST_NIGHT_HOURS + 1][MOST_WATCHERS];
        private final int[] chosen = new int[MOST_NIGHT_HOURS];
        private final int[] awakeInHour = new int[MOST_NIGHT_HOURS];

        private void layRow(State now) {
            System.arraycopy(now.tired, 0, rows[0], 0, MOST_WATCHERS);
        }

        /** Looks for the best watches; whether there are any. */
        boolean findWatches(Contract terms, State now) {
            layRow(now);
            leastEnd = MOST_TIRED + 1;
            chooseFrom(terms, 0);
            return leastEnd <= MOST_TIRED;
        }

        /** In rising order and taking only what is better, so the first of like ones stays. */
        private void chooseFrom(Contract terms, int h) {
            if (h < 0 || h >= MOST_NIGHT_HOURS) return;
            for (int p = 0; p < terms.watchers && p < MOST_WATCHERS; p++) {
                System.arraycopy(rows[h], 0, rows[h + 1], 0, MOST_WATCHERS);
                chosen[h] = p;
                if (terms.spendHour(rows[h + 1], 1 << p, false) != 0) continue;
                int hoursLeft = terms.nightHours - h - 1;
                int end = leastPossibleEnd(terms, rows[h + 1], hoursLeft);
                if (end >= leastEnd) continue;
                if (hoursLeft > 0) chooseFrom(terms, h + 1);
                else takeChosen(end);
            }
        }

        /** The greatest tired if all could rest from now on: no choice ends below it. */
        private int leastPossibleEnd(Contract terms, int[] tired, int hoursLeft) {
            int greatest = 0;
            for (int p = 0; p < terms.watchers && p < MOST_WATCHERS; p++) {
                greatest = Math.max(greatest, tired[p] - terms.less[p] * hoursLeft);
            }
            return greatest;
        }

        private void takeChosen(int end) {
            leastEnd = end;
            System.arraycopy(chosen, 0, bestWatches, 0, MOST_NIGHT_HOURS);
        }

        int nodsWithBell(Contract terms, State now, int bellAt) {
            layRow(now);
            return nodsOfAll(terms, bellAt);
        }

        int nodsWithCoffee(Contract terms, State now, int p) {
            layRow(now);
            if (p >= 0 && p < MOST_WATCHERS) rows[0][p] = afterCoffee(rows[0][p]);
            return nodsOfAll(terms, NONE);
        }

        private int nodsOfAll(Contract terms, int bellAt) {
            int nods = 0;
            for (int h = 0; h < terms.nightHours && h < MOST_NIGHT_HOURS; h++) {
                nods += Integer.bitCount(terms.spendHour(rows[0], terms.everybody(), h == bellAt));
            }
            return nods;
        }

        int nightsOf(Contract terms, State now, int p) {
            if (!terms.hasWatcher(p) || terms.nightHours <= 0) return NONE;
            int tired = now.tired[p];
            for (int h = 0; h < NIGHTS_TRIED * terms.nightHours; h++) {
                tired = Math.min(MOST_TIRED, tired + terms.more[p]);
                if (tired > terms.limit[p]) return h / terms.nightHours;
            }
            return NONE;
        }

        /** The fewest who hold every hour, the least set of like ones; NONE. */
        int fewestHolding(Contract terms, State now) {
            layRow(now);
            for (int h = 0; h < terms.nightHours && h < MOST_NIGHT_HOURS; h++) {
                // who watches tires alike whoever else does: one try with all tells each one's nods
                awakeInHour[h] = terms.everybody() & ~terms.spendHour(rows[0], terms.everybody(), false);
            }
            int best = NONE;
            for (int set = 0; set <= terms.everybody() && set < 1 << MOST_WATCHERS; set++) {
                if (!holds(terms, set)) continue;
                if (best == NONE || Integer.bitCount(set) < Integer.bitCount(best)) best = set;
            }
            return best;
        }

        private boolean holds(Contract terms, int set) {
            for (int h = 0; h < terms.nightHours && h < MOST_NIGHT_HOURS; h++) {
                if ((set & awakeInHour[h]) == 0) return false;
            }
            return true;
        }
    }

    /** Who was seen sitting up or sleeping on, and who may have nodded then. */
    private static final class Seen {
        int count;
        private final int[] sleepers = new int[MOST_SEEN];
        private final boolean[] sitting = new boolean[MOST_SEEN];

        void clear() {
            count = 0;
        }

        boolean append(int s, boolean up) {
            if (count < 0 || count >= MOST_SEEN) return false;
            sleepers[count] = s;
            sitting[count] = up;
            count++;
            return true;
        }

        private boolean fits(Contract terms, int set, int nods) {
            if ((nods & ~set) != 0) return false;
            for (int i = 0; i < count && i < MOST_SEEN; i++) {
                if (terms.sitsUp(sleepers[i], set, nods) != sitting[i]) return false;
            }
            return true;
        }

        int countFitting(Contract terms, int set) {
            int fitting = 0;
            for (int nods = 0; nods <= set && nods < 1 << MOST_WATCHERS; nods++) {
                if (fits(terms, set, nods)) fitting++;
            }
            return fitting;
        }

        int inAllFitting(Contract terms, int set) {
            if (countFitting(terms, set) == 0) return 0;
            int all = set;
            for (int nods = 0; nods <= set && nods < 1 << MOST_WATCHERS; nods++) {
                if (fits(terms, set, nods)) all &= nods;
            }
            return all;
        }

        int fittingAt(Contract terms, int set, int i) {
            int left = i;
            for (int size = 0; size <= MOST_WATCHERS && left >= 0; size++) {
                for (int nods = 0; nods <= set && nods < 1 << MOST_WATCHERS; nods++) {
                    if (Integer.bitCount(nods) != size || !fits(terms, set, nods)) continue;
                    if (left == 0) return nods;
                    left--;
                }
            }
            return NONE;
        }

        int bestToAsk(Contract terms, int set) {
            int best = NONE;
            // a sleeper whose answer leaves all of them together parts nothing
            int leastPart = countFitting(terms, set);
            for (int s = 0; s < terms.sleepers && s < MOST_SLEEPERS; s++) {
                int part = greaterPart(terms, s, set);
                if (part < leastPart) {
                    leastPart = part;
                    best = s;
                }
            }
            return best;
        }

        private int greaterPart(Contract terms, int s, int set) {
            int up = 0;
            int asleep = 0;
            for (int nods = 0; nods <= set && nods < 1 << MOST_WATCHERS; nods++) {
                if (!fits(terms, set, nods)) continue;
                if (terms.sitsUp(s, set, nods)) up++;
                else asleep++;
            }
            return Math.max(up, asleep);
        }
    }

    /** What was written of how tired watchers are. */
    private static final class Book {
        int count;
        private final int[] watchers = new int[MOST_ENTRIES];
        private final int[] tired = new int[MOST_ENTRIES];

        void clear() {
            count = 0;
        }

        boolean append(int p, int howTired) {
            if (count < 0 || count >= MOST_ENTRIES) return false;
            watchers[count] = p;
            tired[count] = howTired;
            count++;
            return true;
        }

        /** The first entry that is otherwise now; NONE. */
        int firstWrong(State now) {
            for (int i = 0; i < count && i < MOST_ENTRIES; i++) {
                int p = watchers[i];
                if (p < 0 || p >= MOST_WATCHERS) continue;
                if (now.tired[p] != tired[i]) return i;
            }
            return NONE;
        }
    }
}
