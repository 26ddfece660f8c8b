import java.util.ArrayList;
import java.util.List;
import java.util.regex.Matcher;
import java.util.regex.Pattern;

/** Reads a contract's text by its tokens and a row of what may come next: the model's reader. */
final class PlainText {
    private static final Pattern TOKEN = Pattern.compile("([0-9]+)|([^ ])|$", Pattern.DOTALL);

    int fault = 0;
    int place = -1;
    PlainVillage.Deal deal = null;

    private final List<PlainVillage.Watcher> watchers = new ArrayList<>();
    private final List<Integer> sleepers = new ArrayList<>();
    private char clause = 0;
    private final List<Integer> numbers = new ArrayList<>();

    PlainText(String text) {
        Matcher m = TOKEN.matcher(text);
        while (fault == 0 && m.find()) {
            String token = m.group();
            place = m.start();
            if (token.isEmpty()) fault = clause == 0 ? 0 : 1;
            else if (m.group(1) != null) fault = number(token);
            else fault = letter(token.charAt(0));
        }
        if (fault == 0) place = -1;
        if (deal != null) deal = new PlainVillage.Deal(deal.h(), deal.w(), deal.f(), deal.b(), List.copyOf(watchers), List.copyOf(sleepers));
    }

    private int[][] bounds() {
        switch (clause) {
            case 'k': return new int[][] {{1, 6}, {0, 99}, {0, 99}, {0, 20}};
            case 'p': return new int[][] {{0, 99}, {0, 30}, {0, 30}, {0, 99}};
            case 's': return new int[][] {{0, 63}};
            default: return new int[0][];
        }
    }

    private int number(String figures) {
        int[][] bounds = bounds();
        if (numbers.size() == bounds.length) return 1;
        if (figures.length() > 3) return 2;
        int[] two = bounds[numbers.size()];
        int value = Integer.parseInt(figures);
        if (value < two[0] || value > two[1]) return 2;
        if (clause == 's') {
            for (int k = 0; k < 6; k++) if ((value >> k) % 2 == 1 && k >= watchers.size()) return 2;
        }
        numbers.add(value);
        return 0;
    }

    private int letter(char c) {
        if (clause != 0) return c == ';' && numbers.size() == bounds().length ? end() : 1;
        if ("kps".indexOf(c) < 0 || deal == null && c != 'k') return 1;
        if (c == 'k' && deal != null || c == 'p' && watchers.size() == 6 || c == 's' && sleepers.size() == 8) return 3;
        clause = c;
        return 0;
    }

    private int end() {
        if (clause == 'k') deal = new PlainVillage.Deal(numbers.get(0), numbers.get(1), numbers.get(2), numbers.get(3), List.of(), List.of());
        if (clause == 'p') watchers.add(new PlainVillage.Watcher(numbers.get(0), numbers.get(1), numbers.get(2), numbers.get(3)));
        if (clause == 's') sleepers.add(numbers.get(0));
        clause = 0;
        numbers.clear();
        return 0;
    }
}
