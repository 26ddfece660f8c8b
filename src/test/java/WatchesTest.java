import java.util.Random;

/** Promise 13 at its full size: the watches against every row of watchers that there is, counted through in rising order. */
public final class WatchesTest {
    private static final int NONE = SleeplessVillage.NONE;
    private static final int CONTRACTS = 600;
    private static final Due due = new Due("WatchesTest");

    private final Random random;
    private final SleeplessVillage x;
    private final int hours;
    private final int watchers;
    private final int[][] facts;
    private int[] best = null;
    private int bestEnd = NONE;

    private WatchesTest(int number) {
        random = new Random(number * 104729L + 7);
        hours = number % 2 == 0 ? 6 : 1 + random.nextInt(6);
        watchers = number % 3 == 0 ? 6 : 1 + random.nextInt(6);
        x = Due.village(anyText(number % 4));
        facts = new int[watchers][4];
    }

    public static void main(String[] args) {
        due.sentence("nobody NODS: the one by which the greatest TIRED behind all is least; of like ones the first");
        int found = 0;
        for (int number = 0; number < CONTRACTS; number++) if (new WatchesTest(number).compare()) found++;
        due.is("contracts with watches and without are both tried", 1, found > CONTRACTS / 4 && found < CONTRACTS * 9 / 10 ? 1 : 0);
        due.close();
    }

    /** Numbers close together make like ones; high limits, watches; low ones, none. */
    private String anyText(int kind) {
        int most = kind < 2 ? 3 : 30;
        int limit = kind % 2 == 0 ? 60 : 10;
        StringBuilder text = new StringBuilder("k" + hours + " 0 0 5;");
        for (int p = 0; p < watchers; p++) {
            text.append("p").append(random.nextInt(10 * most)).append(" ").append(random.nextInt(most + 1)).append(" ");
            text.append(random.nextInt(most + 1)).append(" ").append(limit + random.nextInt(40)).append(";");
        }
        return text.toString().replaceAll("p\\d{3}", "p99");
    }

    private boolean compare() {
        x.drift(1 + random.nextInt(9));
        // asked once: an object answers for 512 calls
        for (int p = 0; p < watchers; p++) for (int what = 0; what < 4; what++) facts[p][what] = x.watcher(p, what);
        int[] row = new int[hours];
        do {
            int end = endOf(row);
            if (end != NONE && (best == null || end < bestEnd)) {
                best = row.clone();
                bestEnd = end;
            }
        } while (next(row));
        int[] want = new int[hours + 1];
        want[0] = bestEnd;
        for (int h = 0; h < hours; h++) want[h + 1] = best == null ? NONE : best[h];
        due.watches("of " + watchers + " for " + hours + " hours", x, want);
        return best != null;
    }

    /** The row that comes behind this one, the last hour's watcher rising first; whether there is one. */
    private boolean next(int[] row) {
        for (int h = hours - 1; h >= 0; h--) {
            row[h]++;
            if (row[h] < watchers) return true;
            row[h] = 0;
        }
        return false;
    }

    /** The greatest tired behind these watches; NONE if one nods. */
    private int endOf(int[] row) {
        int greatest = 0;
        for (int p = 0; p < watchers; p++) {
            int tired = tiredBehind(p, row);
            if (tired == NONE) return NONE;
            greatest = Math.max(greatest, tired);
        }
        return greatest;
    }

    private int tiredBehind(int p, int[] row) {
        int tired = facts[p][0], more = facts[p][1], less = facts[p][2], limit = facts[p][3];
        for (int watching : row) {
            if (watching == p) {
                tired = tired + more > 199 ? 199 : tired + more;
                if (tired > limit) return NONE;
            } else {
                tired = tired > less ? tired - less : 0;
            }
        }
        return tired;
    }
}
