import java.util.ArrayList;
import java.util.HashMap;
import java.util.List;
import java.util.Map;
import java.util.regex.Matcher;
import java.util.regex.Pattern;

/**
 * The words in which boundaries.txt writes its runs:
 * call(number,number)=due, 5*call(#,0) and 5*[call(#) call(#+1)] with # going from 0 to 4, @name(word,word) for a
 * beginning that several runs share, where its words stand for $1, $2.
 * A number is -7, 0x7ff, a name, or some of them with + and - between; d:1.5 is the BITS of a double, f:0.1 those of a
 * float as a double.
 */
final class Words {
    static final long NAN = Double.doubleToLongBits(Double.NaN);

    private static final Pattern CALL = Pattern.compile("(\\w+)\\(([^()]*)\\)(?:=(\\S+))?");
    private static final Pattern SHARED = Pattern.compile("@(\\w+)(?:\\(([^()]*)\\))?");
    private static final Pattern TIMES = Pattern.compile("(\\d+)\\*(.+)");
    private static final Pattern TERM = Pattern.compile("([+-]?)(#|\\w+)");
    private static final Map<String, Long> NAMES = names();

    private final Map<String, String> shared = new HashMap<>();

    private static Map<String, Long> names() {
        Map<String, Long> names = new HashMap<>();
        String[] sets = {"PLAIN ABSTRACT GUISE RECORD CHOICES BODY", "FIELD GETTER COMPONENT",
            "BYTES SHORTS CHARS INTS LONGS FLOATS DOUBLES TRUTHS THINGS VARIABLE0 VARIABLE1", "NOFAULT NULL CAST INDEX STORE SIZE ZERO KIND"};
        for (String set : sets) {
            String[] words = set.split(" ");
            for (int i = 0; i < words.length; i++) {
                names.put(words[i], (long) i);
            }
        }
        String[] others = {"UNKNOWN -1", "OUTSIDE -2", "STATE -3", "FULL -4", "NONE -9", "HIDDEN 1", "STATIC 2", "KEY 4",
            "MIN " + Integer.MIN_VALUE, "MAX " + Integer.MAX_VALUE, "LMIN " + Long.MIN_VALUE, "LMAX " + Long.MAX_VALUE, "NAN " + NAN};
        for (String other : others) {
            String[] pair = other.split(" ");
            names.put(pair[0], Long.valueOf(pair[1]));
        }
        return names;
    }

    void share(String name, String words) {
        shared.put(name, words);
    }

    List<Call> run(String text) {
        List<Call> calls = new ArrayList<>();
        read(text.trim(), 0, calls);
        return calls;
    }

    private void read(String text, int round, List<Call> calls) {
        String rest = text;
        while (!rest.isEmpty()) {
            int end = endOfWord(rest);
            readWord(rest.substring(0, end), round, calls);
            rest = rest.substring(end).trim();
        }
    }

    /** A word ends at a space that no bracket is open at. */
    private static int endOfWord(String text) {
        int open = 0;
        for (int i = 0; i < text.length(); i++) {
            char sign = text.charAt(i);
            open += sign == '[' ? 1 : sign == ']' ? -1 : 0;
            if (sign == ' ' && open == 0) {
                return i;
            }
        }
        return text.length();
    }

    private void readWord(String word, int round, List<Call> calls) {
        Matcher times = TIMES.matcher(word);
        Matcher named = SHARED.matcher(word);
        Matcher call = CALL.matcher(word);
        if (times.matches()) {
            for (int i = 0; i < Integer.parseInt(times.group(1)); i++) {
                read(times.group(2), i, calls);
            }
        } else if (word.startsWith("[") && word.endsWith("]")) {
            read(word.substring(1, word.length() - 1), round, calls);
        } else if (named.matches()) {
            read(sharedWords(named.group(1), named.group(2)), round, calls);
        } else if (call.matches()) {
            String[] numbers = call.group(2).isEmpty() ? new String[0] : call.group(2).split(",");
            calls.add(new Call(call.group(1), numbers, call.group(3), round));
        } else {
            throw new IllegalArgumentException("no word of a run: " + word);
        }
    }

    private String sharedWords(String name, String words) {
        String text = shared.get(name);
        if (text == null) {
            throw new IllegalArgumentException("nothing is shared by the name " + name);
        }
        String[] list = words == null ? new String[0] : words.split(",");
        for (int i = 0; i < list.length; i++) {
            text = text.replace("$" + (i + 1), list[i]);
        }
        return text;
    }

    static long number(String text, int round) {
        if (text.startsWith("d:")) {
            return Double.doubleToLongBits(Double.parseDouble(text.substring(2)));
        }
        if (text.startsWith("f:")) {
            return Double.doubleToLongBits(Float.parseFloat(text.substring(2)));
        }
        if (text.startsWith("0x")) {
            return Long.parseUnsignedLong(text.substring(2), 16);
        }
        Matcher term = TERM.matcher(text);
        long sum = 0;
        int end = 0;
        while (term.find() && term.start() == end) {
            long value = term.group(2).equals("#") ? round : named(term.group(2));
            sum += term.group(1).equals("-") ? -value : value;
            end = term.end();
        }
        if (end != text.length() || end == 0) {
            throw new IllegalArgumentException("no number: " + text);
        }
        return sum;
    }

    private static long named(String word) {
        return NAMES.containsKey(word) ? NAMES.get(word) : Long.parseLong(word);
    }
}
