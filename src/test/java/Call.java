import java.lang.reflect.Method;
import java.lang.reflect.Modifier;
import java.util.HashMap;
import java.util.Map;
import java.util.Set;

/** One call on a MemberScanner with its numbers and, if it is told, the answer that is due. */
final class Call {
    private static final Map<String, Method> METHODS = publicMethods();
    private static final Set<String> NAMING_FAULTS = Set.of("tally", "offer", "row", "inner", "size", "get", "set", "link", "as", "wide",
        "copy", "follow", "column", "cell", "at", "list", "stand", "board", "trial");
    private static final Set<String> ONLY_ASKING = Set.of("says", "way", "below", "broken", "entry", "offer", "of", "slot", "kind", "size",
        "get", "as", "wide", "follow", "alike", "find", "cell", "fold", "at", "board", "trial", "fault", "told");
    private static final Set<String> REFUSALS = Set.of("UNKNOWN", "OUTSIDE", "STATE", "FULL", "refused");

    final String name;
    private final Object[] numbers;
    /** A number, a refusal by its name, a FAULT behind a '!' and perhaps a number, "refused" of a long; null if nothing is told. */
    private final String due;
    private final int round;

    Call(String name, String[] numbers, String due, int round) {
        this.name = name;
        this.due = due;
        this.round = round;
        Method method = METHODS.get(name);
        if (method == null || method.getParameterCount() != numbers.length) {
            throw new IllegalArgumentException("no such call: " + name + " with " + numbers.length + " numbers");
        }
        this.numbers = new Object[numbers.length];
        for (int i = 0; i < numbers.length; i++) {
            long number = Words.number(numbers[i], round);
            this.numbers[i] = method.getParameterTypes()[i] == int.class ? (Object) Math.toIntExact(number) : (Object) number;
        }
    }

    private static Map<String, Method> publicMethods() {
        Map<String, Method> methods = new HashMap<>();
        for (Method method : MemberScanner.class.getDeclaredMethods()) {
            if (Modifier.isPublic(method.getModifiers())) {
                methods.put(method.getName(), method);
            }
        }
        return methods;
    }

    long ask(MemberScanner x) {
        try {
            return ((Number) METHODS.get(name).invoke(x, numbers)).longValue();
        } catch (ReflectiveOperationException e) {
            throw new IllegalStateException(this + " threw " + e.getCause(), e);
        }
    }

    boolean tellsWhatIsDue() {
        return due != null;
    }

    boolean isRefused() {
        return due != null && REFUSALS.contains(due);
    }

    boolean comesToFault() {
        return due != null && due.contains("!");
    }

    /** Whether the state must be the same behind the call as ahead of it. */
    boolean leavesAll() {
        return isRefused() || comesToFault() || ONLY_ASKING.contains(name);
    }

    boolean namesFaults() {
        return NAMING_FAULTS.contains(name);
    }

    int dueFault() {
        return comesToFault() ? (int) Words.number(due.substring(due.indexOf('!') + 1), round) : 0;
    }

    long dueAnswer() {
        String number = comesToFault() ? due.substring(0, due.indexOf('!')) : due;
        if (!number.isEmpty() && !number.equals("refused")) {
            return Words.number(number, round);
        }
        if (name.equals("at")) {
            return Words.NAN;
        }
        return METHODS.get(name).getReturnType() == long.class ? 0 : -10 - dueFault();
    }

    @Override
    public String toString() {
        StringBuilder text = new StringBuilder(name).append('(');
        for (int i = 0; i < numbers.length; i++) {
            text.append(i == 0 ? "" : ", ").append(numbers[i]);
        }
        return text.append(')').toString();
    }
}
