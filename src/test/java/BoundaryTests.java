import java.nio.file.Files;
import java.nio.file.Path;
import java.util.ArrayList;
import java.util.LinkedHashMap;
import java.util.List;
import java.util.Map;
import java.util.Set;
import java.util.TreeSet;
import java.util.regex.Matcher;
import java.util.regex.Pattern;

/**
 * The cases of src/test/boundaries.txt: under each sentence of the document those that it names, each a run of calls on
 * a new object. Beside the answers that a run tells it is tested, of each call whose answer is told, that fault() and the
 * count of FAULTS are as due behind it, and that a refusal, a FAULT or a mere question changes nothing.
 */
public final class BoundaryTests {
    private static final int MOST_CALLS = 512;
    private static final int PROMISES = 42;

    private final Words words = new Words();
    /** The sentences that stand in boundaries.txt, by the heading of the document that they stand under. */
    private final Map<String, List<String>> sentences = new LinkedHashMap<>();
    private final Set<String> names = new TreeSet<>();
    private String heading = "";
    private String sentence = "";
    private int casesOfSentence;
    private int cases;
    private int wrong;

    private BoundaryTests() {
    }

    public static void main(String[] args) throws Exception {
        Path project = Path.of(System.getProperty("project", "."));
        BoundaryTests tests = new BoundaryTests();
        for (String line : logicalLines(Files.readAllLines(project.resolve("src/test/boundaries.txt")))) {
            tests.take(line);
        }
        tests.endSentence();
        tests.compareWithDocument(project.resolve("../shared/DOC.md"));
        System.out.println("boundaries: " + tests.cases + " cases, " + tests.wrong + " wrong");
        if (tests.wrong != 0) {
            System.exit(1);
        }
    }

    /** Without comments; a line that begins with a space goes on with the one before. */
    private static List<String> logicalLines(List<String> lines) {
        List<String> whole = new ArrayList<>();
        for (String line : lines) {
            if (line.startsWith(" ") && !whole.isEmpty()) {
                int last = whole.size() - 1;
                whole.set(last, whole.get(last) + " " + line.trim());
            } else if (!line.isBlank() && !line.startsWith("#")) {
                whole.add(line.trim());
            }
        }
        return whole;
    }

    private void take(String line) {
        if (line.startsWith("== ")) {
            endSentence();
            sentence = "";
            heading = line.substring(3);
            sentences.put(heading, new ArrayList<>());
        } else if (line.startsWith("-- ")) {
            endSentence();
            sentence = line.substring(3);
            casesOfSentence = 0;
            sentences.get(heading).add(sentence);
        } else if (line.startsWith("let ")) {
            String[] parts = line.substring(4).split(" = ", 2);
            words.share(parts[0], parts[1]);
        } else {
            takeCase(line);
        }
    }

    private void endSentence() {
        if (!sentence.isEmpty() && casesOfSentence == 0) {
            complain("no case for this sentence", "");
        }
    }

    private void takeCase(String line) {
        String[] parts = line.split(" \\| ", 2);
        String name = parts[0];
        cases++;
        casesOfSentence++;
        if (sentence.isEmpty() || parts.length != 2) {
            complain(line, "this is no case of a sentence");
            return;
        }
        if (!names.add(heading + sentence + name)) {
            complain(name, "this case is there twice");
        }
        try {
            runCase(name, words.run(parts[1]));
        } catch (IllegalArgumentException | IllegalStateException e) {
            complain(name, e.getMessage());
        }
    }

    private void complain(String name, String what) {
        wrong++;
        System.out.println(heading + ": \"" + sentence + "\": " + name + ": " + what);
    }

    private void runCase(String name, List<Call> run) {
        if (run.isEmpty() || !run.get(run.size() - 1).tellsWhatIsDue() || run.size() > MOST_CALLS) {
            complain(name, "a run ends with a call whose answer is told, and has 512 at most");
            return;
        }
        MemberScanner x = new MemberScanner();
        for (int i = 0; i < run.size(); i++) {
            Call call = run.get(i);
            long got = call.ask(x);
            if (call.tellsWhatIsDue() && got != call.dueAnswer()) {
                complain(name, "call " + i + ", " + call + ", answered " + got + ", due is " + call.dueAnswer());
                return;
            }
        }
        for (int i = 0; i < run.size(); i++) {
            if (run.get(i).tellsWhatIsDue()) {
                compareFaults(name, run, i);
            }
        }
        compareSnapshots(name, run);
    }

    /** A FAULT is come to ahead of the call: one that names FAULTS tells its own then, another leaves it. */
    private void compareFaults(String name, List<Call> run, int i) {
        Call call = run.get(i);
        if (i + 5 > MOST_CALLS) {
            return;
        }
        MemberScanner x = new MemberScanner();
        for (Call before : run.subList(0, i)) {
            before.ask(x);
        }
        int other = call.dueFault() == 4 ? 6 : 4;
        x.trial(other, i % 16);
        int faults = x.told(4);
        long got = call.ask(x);
        boolean tellsOfFaults = call.name.equals("fault") || call.name.equals("told");
        if (!tellsOfFaults && got != call.dueAnswer()) {
            complain(name, call + " behind a FAULT answered " + got + ", due is " + call.dueAnswer());
        }
        int fault = x.fault();
        int dueFault = call.namesFaults() ? call.dueFault() : other;
        if (fault != dueFault) {
            complain(name, "fault() behind " + call + " answered " + fault + ", due is " + dueFault);
        }
        int more = x.told(4) - faults;
        if (more != (call.comesToFault() ? 1 : 0)) {
            complain(name, call + " came to " + more + " FAULTS");
        }
    }

    private void compareSnapshots(String name, List<Call> run) {
        int last = run.size() - 1;
        for (int i = 0; i <= last; i++) {
            Call call = run.get(i);
            boolean isWorthIt = i == last || call.isRefused() || call.comesToFault();
            if (isWorthIt && call.leavesAll() && i + 300 < MOST_CALLS) {
                String changed = firstChange(Snapshot.behind(run.subList(0, i)), Snapshot.behind(run.subList(0, i + 1)));
                if (changed != null) {
                    complain(name, call + " changed what it must leave: " + changed);
                }
            }
        }
    }

    private static String firstChange(List<String> before, List<String> behind) {
        for (int i = 0; i < Math.min(before.size(), behind.size()); i++) {
            if (!before.get(i).equals(behind.get(i))) {
                return before.get(i) + " became " + behind.get(i);
            }
        }
        return before.size() == behind.size() ? null : "more or less is there";
    }

    /** The sentences under a heading must be all that the document says there, in its order. */
    private void compareWithDocument(Path file) throws Exception {
        if (!Files.exists(file)) {
            System.out.println("boundaries: there is no " + file + " to compare the sentences with");
            return;
        }
        Map<String, String> document = documentTexts(Files.readString(file));
        Set<String> wanted = new TreeSet<>(Set.of("What it is", "Terms"));
        for (String title : document.keySet()) {
            if (title.startsWith("Promise ")) {
                wanted.add(title);
            }
        }
        sentence = "";
        heading = "DOC.md";
        if (wanted.size() != PROMISES + 2) {
            complain("promises", "there are " + (wanted.size() - 2));
        }
        for (String title : wanted) {
            String ours = String.join(" ", sentences.getOrDefault(title, List.of()));
            String theirs = document.getOrDefault(title, "");
            if (!ours.equals(theirs)) {
                complain(title, "boundaries.txt has\n  " + ours + "\nand the document\n  " + theirs);
            }
        }
    }

    private static Map<String, String> documentTexts(String document) {
        Map<String, String> texts = new LinkedHashMap<>();
        Matcher part = Pattern.compile("(?ms)^## ([^\n]+)\n(.*?)(?=^## |\\z)").matcher(document);
        while (part.find()) {
            String text = part.group(2);
            text = text.replaceAll("(?m)^```.*$", "").replaceAll("(?m)^Ahead of the calls .*$", "");
            text = text.replaceAll("\\s+", " ").trim();
            // FaceTests has the face, which stands ahead of what a promise says.
            texts.put(part.group(1).trim(), text.replaceFirst("^`[^`]*`: ", ""));
        }
        return texts;
    }
}
