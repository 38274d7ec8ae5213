import java.util.ArrayList;
import java.util.List;

/**
 * All that can be asked of an object behind a run of calls, but for fault() and how many FAULTS there were. An object is
 * used for 512 calls at most, so the run is made anew, on a new object, whenever more is to be asked.
 */
final class Snapshot {
    private static final int MOST_CALLS = 512, NONE = -9, LAST_NAME = 30;

    private final List<Call> run;
    private final List<String> lines = new ArrayList<>();
    private MemberScanner x;
    private int left;

    private Snapshot(List<Call> run) {
        this.run = run;
    }

    static List<String> behind(List<Call> run) {
        Snapshot snapshot = new Snapshot(run);
        snapshot.takeAll();
        return snapshot.lines;
    }

    private void takeAll() {
        for (int what = 0; what <= 5; what++) {
            if (what != 4) {
                note("told " + what, with(1).told(what));
            }
        }
        table("scanned");
        int classes = with(1).told(0);
        for (int c = 0; c < classes; c++) {
            type(c);
        }
        int objects = with(1).told(1);
        for (int o = 0; o < objects; o++) {
            thing(o);
        }
        column();
        lists();
    }

    /** The object, on which so many calls may still be made. */
    private MemberScanner with(int calls) {
        if (x == null || left < calls) {
            x = new MemberScanner();
            left = MOST_CALLS - run.size();
            for (Call call : run) {
                call.ask(x);
            }
        }
        left -= calls;
        return x;
    }

    private void note(String what, long answer) {
        lines.add(what + ": " + answer);
    }

    private void table(String whose) {
        MemberScanner y = with(4 + 1 + 7 * (LAST_NAME + 1));
        for (int what = 0; what <= 3; what++) {
            note(whose + " broken " + what, y.broken(what));
        }
        int entries = y.told(2);
        for (int i = 0; i < entries; i++) {
            for (int what = 0; what <= 6; what++) {
                note(whose + " entry " + i + " " + what, y.entry(i, what));
            }
        }
    }

    private void type(int c) {
        int length = with(1).says(c, 5);
        for (int what = 0; what <= 8; what++) {
            note("says " + c + " " + what, with(1).says(c, what));
        }
        for (int i = 0; i < length; i++) {
            note("way " + c + " " + i, with(1).way(c, i));
        }
        for (int as = 0; as <= 2; as++) {
            note("tally " + c + " " + as, with(1).tally(c, as, 0));
        }
        x = null;
        with(1).scan(c);
        table("CLASS " + c);
        x = null;
    }

    private void thing(int o) {
        int slots = with(1).of(o, 1);
        note("class of " + o, with(1).of(o, 0));
        note("slots of " + o, slots);
        for (int s = 0; s < slots; s++) {
            for (int what = 0; what <= 3; what++) {
                note("kind " + o + " " + s + " " + what, with(1).kind(o, s, what));
            }
            slot(o, s);
        }
    }

    private void slot(int o, int s) {
        int size = with(1).size(o, s, NONE);
        note("size " + o + " " + s, size);
        boolean hasPlaces = with(1).kind(o, s, 2) == 2;
        for (int i = 0; i < size; i++) {
            int cells = hasPlaces ? with(1).size(o, s, i) : 1;
            note("cells " + o + " " + s + " " + i, cells);
            for (int j = 0; j < cells; j++) {
                note("cell " + o + " " + s + " " + i + " " + j, with(1).get(o, s, i, j));
            }
        }
    }

    private void column() {
        int cells = with(1).told(5);
        // One further: without a COLUMN that is no FAULT.
        for (int i = 0; i <= cells; i++) {
            MemberScanner y = with(2);
            note("column " + i, y.cell(i));
            note("column fault " + i, y.fault());
        }
        for (int what = 0; what <= 4; what++) {
            note("fold " + what, with(1).fold(what));
        }
    }

    private void lists() {
        for (int k = 0; k < 4; k++) {
            for (int i = 0; i <= 8; i++) {
                note("board " + k + " " + i, with(1).board(k, i));
            }
        }
    }
}
