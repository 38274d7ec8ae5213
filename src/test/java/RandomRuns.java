import java.lang.reflect.InvocationTargetException;
import java.lang.reflect.Method;
import java.lang.reflect.Modifier;
import java.util.ArrayList;
import java.util.Arrays;
import java.util.HashMap;
import java.util.List;
import java.util.Map;
import java.util.Random;

/**
 * Runs of calls, the same every time, whose answers MemberScanner and Oracle must agree on. Each call is followed by
 * fault(), so that a run of 256 comes to the 512 that an object is used for.
 */
public final class RandomRuns {
    private static final int RUNS = 4000, CALLS = 256, BUILDING = 80;

    /** Each call with what its numbers are and how often it comes: while CLASSES are built, and later. */
    private static final String[] CALLS_OF = {
        "cls form parent 10 1", "face c guise 6 1", "variable c lane 3 1", "member c sort name anylane depth marks 40 3",
        "says c what 1 2", "way c small 1 2", "below c c 1 2", "scan c 3 3", "broken what 1 2", "entry small what 1 4",
        "tally c sort v 1 2", "offer c 1 2", "hold c n v 1 1",
        "make c 6 8", "of o what 0 1", "slot o name 0 2", "kind o s what 0 2", "row o s n 1 12", "inner o s small n 1 10",
        "drop o s 0 2", "size o s place 0 4", "get o s cell cell 0 8", "set o s cell cell value 1 20",
        "link o s cell cell object 1 12", "as o s cell lane 0 6", "wide o s cell lane 0 8", "copy o s cell o s cell n 0 16",
        "follow o name steps 0 4", "twin o 0 3", "alike o o 0 3", "find c key 0 10",
        "column c name lane 0 6", "cell small 0 3", "fold what 0 4", "at o s bits 0 8",
        "list k takes n 2 1", "stand k small c 0 8", "board k small 0 8", "trial fault trialway 0 1", "fault 1 4", "told what 1 3"
    };

    private static final Map<String, Method> SCANNER = publicMethods(MemberScanner.class);
    private static final Map<String, Method> ORACLE = publicMethods(Oracle.class);

    private final Random random;
    private final int agreement;
    private final MemberScanner scanner = new MemberScanner();
    private final Oracle oracle = new Oracle();

    private RandomRuns(long seed) {
        random = new Random(seed);
        agreement = random.nextInt(50);
    }

    public static void main(String[] args) throws Exception {
        Map<String, Integer> answered = new HashMap<>();
        int wrong = 0;
        for (int run = 0; run < RUNS; run++) {
            if (!new RandomRuns(run).isSame(run, answered)) {
                wrong++;
            }
        }
        wrong += callsNeverAnswered(answered);
        if (args.length > 0) {
            System.out.println(answered);
        }
        System.out.println("random runs: " + (RUNS - Math.min(wrong, RUNS)) + " of " + RUNS + " as the oracle has them");
        if (wrong != 0) {
            System.exit(1);
        }
    }

    /** A run that never comes to an answer that counts tests nothing, so each call must have come to one often. */
    private static int callsNeverAnswered(Map<String, Integer> answered) {
        int missing = 0;
        for (String line : CALLS_OF) {
            String name = line.split(" ")[0];
            if (answered.getOrDefault(name, 0) < 300) {
                System.out.println("random runs: " + name + " had too few answers");
                missing++;
            }
        }
        return missing;
    }

    private boolean isSame(int run, Map<String, Integer> answered) throws Exception {
        List<String> said = new ArrayList<>();
        for (int call = 0; call < CALLS; call++) {
            String[] words = pick(call < BUILDING ? 2 : 1).split(" ");
            Object[] arguments = arguments(words);
            for (int more = 0; more < 30 && !isApt(words[0], arguments); more++) {
                arguments = arguments(words);
            }
            Object got = answer(scanner, words[0], arguments);
            Object due = answer(oracle, words[0], arguments);
            said.add(words[0] + Arrays.toString(arguments) + " = " + got);
            int fault = scanner.fault();
            if (!got.equals(due) || fault != oracle.fault()) {
                System.out.println("random run " + run + ", call " + call + ": due is " + due + " and FAULT " + oracle.fault()
                    + ", FAULT was " + fault);
                said.forEach(System.out::println);
                return false;
            }
            if (((Number) got).longValue() >= 0 || words[0].equals("trial")) {
                answered.merge(words[0], 1, Integer::sum);
            }
        }
        return true;
    }

    private static Object answer(Object on, String name, Object[] arguments) throws Exception {
        try {
            return methodsOf(on).get(name).invoke(on, arguments);
        } catch (InvocationTargetException e) {
            throw new IllegalStateException(name + Arrays.toString(arguments), e.getCause());
        }
    }

    private static Map<String, Method> methodsOf(Object on) {
        return on instanceof Oracle ? ORACLE : SCANNER;
    }

    private static Map<String, Method> publicMethods(Class<?> type) {
        Map<String, Method> byName = new HashMap<>();
        for (Method method : type.getDeclaredMethods()) {
            if (Modifier.isPublic(method.getModifiers())) {
                byName.put(method.getName(), method);
            }
        }
        return byName;
    }

    private String pick(int fromEnd) {
        int all = 0;
        for (String line : CALLS_OF) {
            all += weight(line, fromEnd);
        }
        int left = random.nextInt(all);
        for (String line : CALLS_OF) {
            left -= weight(line, fromEnd);
            if (left < 0) {
                return line;
            }
        }
        return CALLS_OF[0];
    }

    private static int weight(String line, int fromEnd) {
        String[] words = line.split(" ");
        return Integer.parseInt(words[words.length - fromEnd]);
    }

    private Object[] arguments(String[] words) {
        Object[] arguments = new Object[words.length - 3];
        for (int i = 0; i < arguments.length; i++) {
            arguments[i] = argument(words[i + 1]);
        }
        if (words[0].equals("member") && !rarely(12)) {
            agree(arguments);
        }
        return arguments;
    }

    /** MEMBERS of one NAME mostly agree, because of a CLASS with a CLASH no OBJECT can be made. */
    private void agree(Object[] member) {
        int by = Math.abs((Integer) member[2] % 31) + agreement;
        member[3] = by * 7 % 9;
        member[4] = by % 5 % 3;
    }

    /** Whether a call that wants a rare SLOT has one; most calls of it would be refused otherwise. */
    private boolean isApt(String call, Object[] on) {
        switch (call) {
            case "inner": return kindOf(on, 0, 2) == 2;
            case "row": return kindOf(on, 0, 2) > 0;
            case "link": return kindOf(on, 0, 1) == 8;
            case "at": return kindOf(on, 0, 2) == 1 && (kindOf(on, 0, 1) == 5 || kindOf(on, 0, 1) == 6);
            case "copy": return kindOf(on, 0, 1) == kindOf(on, 3, 1) && kindOf(on, 0, 2) < 2 && kindOf(on, 3, 2) < 2;
            case "as": return kindOf(on, 0, 1) == (Integer) on[3] || rarely(4);
            default: return true;
        }
    }

    private int kindOf(Object[] on, int from, int what) {
        return oracle.kind((Integer) on[from], (Integer) on[from + 1], what);
    }

    private Object argument(String word) {
        switch (word) {
            case "value": return value();
            case "key": return rarely(4) ? value() : oracle.keyOf(below(oracle.told(1)));
            case "bits": return random.nextInt(4) == 0 ? value() : Double.doubleToLongBits(curvePlace());
            default: return rarely(30) ? anything() : ordinary(word);
        }
    }

    private boolean rarely(int one) {
        return random.nextInt(one) == 0;
    }

    private int anything() {
        int[] odd = {-1, -2, -9, -10, 31, 40, 60, 11, 9, 8, 7, Integer.MIN_VALUE, Integer.MAX_VALUE, random.nextInt()};
        return odd[random.nextInt(odd.length)];
    }

    private int ordinary(String word) {
        switch (word) {
            case "form": return random.nextInt(3) == 0 ? random.nextInt(6) : new int[] {0, 0, 2, 3, 1, 4, 5}[random.nextInt(7)];
            case "parent": return random.nextBoolean() ? -9 : below(oracle.told(0));
            case "c": return random.nextBoolean() ? below(oracle.told(0)) : below(Math.min(4, oracle.told(0)));
            case "guise": return below(oracle.told(0));
            case "lane": return random.nextInt(9);
            case "anylane": return random.nextInt(11);
            case "sort": return random.nextInt(3);
            case "name": return random.nextBoolean() ? random.nextInt(6) : random.nextInt(31);
            case "depth": return random.nextInt(3) == 0 ? 0 : random.nextInt(3);
            case "marks": return !rarely(4) ? 0 : rarely(12) ? random.nextInt(8) : random.nextInt(5);
            case "what": return random.nextInt(9);
            case "small": return random.nextInt(5) - (rarely(9) ? 1 : 0);
            case "v": return random.nextInt(4) == 0 ? random.nextInt() : random.nextInt(100);
            case "n": return random.nextInt(6) - (rarely(6) ? 1 : 0);
            case "o": return below(oracle.told(1));
            case "object": return rarely(6) ? -9 : below(oracle.told(1));
            case "s": return random.nextBoolean() ? random.nextInt(4) : random.nextInt(10);
            case "place": return random.nextBoolean() ? -9 : random.nextInt(4);
            case "cell": return random.nextBoolean() ? 0 : random.nextInt(4) - (rarely(6) ? 1 : 0);
            case "steps": return random.nextInt(4);
            case "k": return random.nextInt(4);
            case "takes": return random.nextInt(3);
            case "fault": return random.nextInt(7) + 1;
            case "trialway": return random.nextInt(16);
            default: throw new IllegalStateException(word);
        }
    }

    private int below(int count) {
        return count == 0 ? 0 : random.nextInt(count);
    }

    private double curvePlace() {
        switch (random.nextInt(4)) {
            case 0: return random.nextInt(20) - 10;
            case 1: return random.nextDouble() * 20 - 10;
            case 2: return (random.nextInt(80) - 40) / 8.0;
            default: return random.nextGaussian() * Math.pow(10, random.nextInt(40) - 20);
        }
    }

    private long value() {
        switch (random.nextInt(7)) {
            case 0: return random.nextInt(5) - 2;
            case 1: return random.nextLong();
            case 2: return random.nextInt();
            case 3: return Double.doubleToLongBits(random.nextInt(9) / 2.0 - 2);
            case 4: return Double.doubleToLongBits(random.nextGaussian() * 1000);
            case 5: return Double.doubleToLongBits((float) random.nextGaussian());
            default:
                double[] odd = {0.0, -0.0, Double.NaN, Double.POSITIVE_INFINITY, Double.NEGATIVE_INFINITY, Double.MAX_VALUE,
                    Double.MIN_VALUE, -Double.MIN_VALUE, Float.MAX_VALUE, Float.MIN_VALUE, 3.5E38, -1E-46, 0.5, -0.5, 1.5, 2.5};
                return Double.doubleToRawLongBits(odd[random.nextInt(odd.length)]);
        }
    }
}
