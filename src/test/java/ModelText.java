import java.util.ArrayList;
import java.util.List;

/** The model's text: first cut into words, then each word held against what is due there. */
final class ModelText {
    final List<Integer> parts = new ArrayList<>();
    final List<int[]> customers = new ArrayList<>();
    final List<Integer> tasks = new ArrayList<>();
    int fault = 0;
    int place = -1;
    private final List<String> words = new ArrayList<>();
    private final List<Integer> places = new ArrayList<>();
    private final List<Integer> numbers = new ArrayList<>();
    private char clause = ' ';

    ModelText(String text) {
        cut(text);
        for (int w = 0; w < words.size() && fault == 0; w++) {
            fault = take(words.get(w));
            place = places.get(w);
        }
        if (fault == 0 && clause != ' ') {
            fault = 1;
            place = text.length();
        }
    }

    private void cut(String text) {
        int i = 0;
        while (i < text.length()) {
            int from = i++;
            if (Character.toString(text.charAt(from)).matches("[0-9]")) {
                while (i < text.length() && Character.toString(text.charAt(i)).matches("[0-9]")) {
                    i++;
                }
            }
            if (text.charAt(from) != ' ') {
                words.add(text.substring(from, i));
                places.add(from);
            }
        }
    }

    /** The fault of a word, 0 if it may stand behind what was taken. */
    private int take(String word) {
        boolean isNumber = word.matches("[0-9]+");
        switch (clause) {
            case ' ':
                return begin(word);
            case 'b':
                if (numbers.size() % 2 == 0) {
                    return isNumber ? number(word, 999) : 1;
                }
                if (word.equals(",") && numbers.size() < 15) {
                    numbers.add(-1);
                    return 0;
                }
                return finish(word);
            case 'c':
                if (numbers.size() < 3) {
                    return isNumber ? number(word, numbers.isEmpty() ? 999 : 99) : 1;
                }
                return finish(word);
            default:
                if (numbers.isEmpty()) {
                    return isNumber ? number(word, (1 << parts.size()) - 1) : 1;
                }
                return finish(word);
        }
    }

    private int begin(String word) {
        if (!word.matches(parts.isEmpty() ? "b" : "[bct]")) {
            return 1;
        }
        clause = word.charAt(0);
        numbers.clear();
        boolean tooOften = clause == 'b' && !parts.isEmpty() || clause == 'c' && customers.size() == 5
            || clause == 't' && tasks.size() == 6;
        return tooOften ? 3 : 0;
    }

    private int number(String word, int most) {
        if (word.length() > 3 || Integer.parseInt(word) > most) {
            return 2;
        }
        numbers.add(Integer.parseInt(word));
        return 0;
    }

    private int finish(String word) {
        if (!word.equals(";")) {
            return 1;
        }
        if (clause == 'b') {
            for (int k = 0; k < numbers.size(); k += 2) {
                parts.add(numbers.get(k));
            }
        } else if (clause == 'c') {
            customers.add(new int[] {numbers.get(0), numbers.get(1), numbers.get(2)});
        } else {
            tasks.add(numbers.get(0));
        }
        clause = ' ';
        return 0;
    }
}
