/** One test or more for each promise of the document, 1 to 42: ordinary numbers, the edges that it names, wrong ones. */
public final class PromiseTests {
    private static final int UNKNOWN = -1, OUTSIDE = -2, STATE = -3, FULL = -4, NONE = -9;
    private static final int PLAIN = 0, ABSTRACT = 1, GUISE = 2, RECORD = 3, CHOICES = 4, BODY = 5;
    private static final int FIELD = 0, GETTER = 1, COMPONENT = 2;
    private static final int BYTES = 0, SHORTS = 1, CHARS = 2, INTS = 3, LONGS = 4, FLOATS = 5, DOUBLES = 6, TRUTHS = 7, THINGS = 8;
    private static final int HIDDEN = 1, STATIC = 2, KEY = 4;
    private static final int NULL = 1, CAST = 2, INDEX = 3, STORE = 4, SIZE = 5, ZERO = 6, KIND = 7;
    private static final int LOW = Integer.MIN_VALUE, HIGH = Integer.MAX_VALUE;
    private static final long NAN = bits(Double.NaN);

    private static int wrong;
    private static int tested;
    private static int promise;

    private PromiseTests() {
    }

    public static void main(String[] args) {
        promise1NewObject();
        promise2Cls();
        promise3Face();
        promise4Variable();
        promise5Member();
        promise6Says();
        promise7Way();
        promise8Below();
        promise9Scan();
        promise9ScanIsTheSameInAnyOrder();
        promise10Broken();
        promise11Entry();
        promise12Tally();
        promise13Offer();
        promise14Hold();
        promise15Make();
        promise16Of();
        promise17Slot();
        promise18Kind();
        promise19Row();
        promise20Inner();
        promise21Drop();
        promise22Size();
        promise23Get();
        promise24Set();
        promise25Link();
        promise26As();
        promise27Wide();
        promise28Copy();
        promise29Follow();
        promise30Twin();
        promise31Alike();
        promise32Find();
        promise33Column();
        promise34Cell();
        promise35Fold();
        promise36At();
        promise37List();
        promise38Stand();
        promise39Board();
        promise40Trial();
        promise41Fault();
        promise42Told();
        System.out.println("promises: " + (tested - wrong) + " of " + tested + " answers are as due");
        if (wrong != 0) {
            System.exit(1);
        }
    }

    private static void due(String what, long got, long want) {
        tested++;
        if (got != want) {
            wrong++;
            System.out.println("promise " + promise + ": " + what + " answered " + got + ", due is " + want);
        }
    }

    /** An answer that must be -10 less a FAULT, which fault() then tells. */
    private static void dueFault(String what, MemberScanner x, long got, int fault) {
        due(what, got, -10 - fault);
        due("fault() after " + what, x.fault(), fault);
    }

    /** A long that must be 0 because of a FAULT, which fault() then tells. */
    private static void dueZero(String what, MemberScanner x, long got, int fault) {
        due(what, got, 0);
        due("fault() after " + what, x.fault(), fault);
    }

    /** A refusal of a call that names FAULTS: fault() tells 0 then, whatever it told before. */
    private static void dueRefused(String what, MemberScanner x, long got, long want) {
        due(what, got, want);
        due("fault() after " + what, x.fault(), 0);
        x.trial(STORE, 0);
    }

    private static long bits(double d) {
        return Double.doubleToLongBits(d);
    }

    /** CLASS 0 with a FIELD of each LANE at DEPTH 0, NAMES 0 .. 8, and OBJECTS of it. */
    private static MemberScanner lanes(int objects) {
        MemberScanner x = new MemberScanner();
        x.cls(PLAIN, NONE);
        for (int lane = 0; lane <= 8; lane++) {
            x.member(0, FIELD, lane, lane, 0, 0);
        }
        for (int o = 0; o < objects; o++) {
            x.make(0);
        }
        return x;
    }

    /** OBJECT 0 with SLOTS 0, 1, 2 of one LANE and DEPTHS 0, 1, 2, and OBJECT 1 alike. */
    private static MemberScanner depths(int lane) {
        MemberScanner x = new MemberScanner();
        x.cls(PLAIN, NONE);
        for (int depth = 0; depth <= 2; depth++) {
            x.member(0, FIELD, depth, lane, depth, 0);
        }
        x.make(0);
        x.make(0);
        x.trial(STORE, 0);
        return x;
    }

    private static void promise1NewObject() {
        promise = 1;
        MemberScanner x = new MemberScanner();
        for (int what = 0; what <= 5; what++) {
            due("told(" + what + ") of a new object", x.told(what), 0);
        }
        due("says(0, 0)", x.says(0, 0), UNKNOWN);
        due("of(0, 0)", x.of(0, 0), UNKNOWN);
        due("fault()", x.fault(), 0);
        for (int k = 0; k < 4; k++) {
            dueFault("board(" + k + ", 0)", x, x.board(k, 0), NULL);
        }
        new MemberScanner().cls(PLAIN, NONE);
        due("an object does not see another one's CLASSES", x.told(0), 0);
    }

    private static void promise2Cls() {
        promise = 2;
        int[][] allowed = {{PLAIN, PLAIN}, {PLAIN, ABSTRACT}, {ABSTRACT, PLAIN}, {ABSTRACT, ABSTRACT}, {BODY, CHOICES}};
        for (int form = 0; form <= 5; form++) {
            for (int above = 0; above <= 5; above++) {
                MemberScanner x = new MemberScanner();
                x.cls(CHOICES, NONE);
                int parent = above == BODY ? x.cls(BODY, 0) : x.cls(above, NONE);
                boolean may = false;
                for (int[] pair : allowed) {
                    may |= pair[0] == form && pair[1] == above;
                }
                due("cls(" + form + ") under FORM " + above, x.cls(form, parent), may ? 2 : STATE);
            }
            due("cls(" + form + ", NONE)", new MemberScanner().cls(form, NONE), form == BODY ? STATE : 0);
        }
        MemberScanner x = new MemberScanner();
        due("cls(6, NONE)", x.cls(6, NONE), OUTSIDE);
        due("cls(-1, NONE)", x.cls(-1, NONE), OUTSIDE);
        due("cls(6, 0): UNKNOWN goes first", x.cls(6, 0), UNKNOWN);
        due("cls(0, LOW)", x.cls(PLAIN, LOW), UNKNOWN);
        due("cls(0, HIGH)", x.cls(PLAIN, HIGH), UNKNOWN);
        due("no CLASS came", x.told(0), 0);
        x.cls(CHOICES, NONE);
        for (int i = 0; i < 8; i++) {
            due("cls " + i + " above", x.cls(i % 2, i == 0 ? NONE : i), i + 1);
        }
        due("cls with 8 above", x.cls(PLAIN, 8), FULL);
        due("a RECORD with a PARENT: STATE goes first", x.cls(RECORD, 8), STATE);
        while (x.told(0) < 40) {
            x.cls(GUISE, NONE);
        }
        due("the 41st", x.cls(GUISE, NONE), FULL);
        due("the 41st, of no FORM", x.cls(6, NONE), OUTSIDE);
        due("the 41st, with a wrong PARENT", x.cls(PLAIN, 0), STATE);
        due("40 CLASSES", x.told(0), 40);
    }

    private static void promise3Face() {
        promise = 3;
        MemberScanner x = new MemberScanner();
        x.cls(PLAIN, NONE);
        for (int i = 1; i <= 5; i++) {
            x.cls(GUISE, NONE);
        }
        due("the first", x.face(0, 1), 1);
        due("again", x.face(0, 1), STATE);
        due("no CLASS", x.face(6, 1), UNKNOWN);
        due("no CLASS of it", x.face(0, 6), UNKNOWN);
        due("of NONE", x.face(0, NONE), UNKNOWN);
        due("what is no GUISE", x.face(1, 0), STATE);
        due("a GUISE of itself", x.face(1, 1), STATE);
        due("a GUISE of a GUISE", x.face(1, 2), 1);
        due("one further", x.face(2, 3), 1);
        due("a ring", x.face(2, 1), STATE);
        due("a longer ring", x.face(3, 1), STATE);
        due("what it has by another one", x.face(0, 3), 2);
        due("the third", x.face(0, 2), 3);
        due("the fourth", x.face(0, 4), FULL);
        due("the fourth, which it has: STATE goes first", x.face(0, 2), STATE);
        due("says 2", x.says(0, 2), 3);
        x.cls(CHOICES, NONE);
        x.cls(BODY, 6);
        due("a BODY's", x.face(7, 1), 1);
        due("what its PARENT does not have", x.face(6, 1), 1);
    }

    private static void promise4Variable() {
        promise = 4;
        MemberScanner x = new MemberScanner();
        for (int lane = 0; lane <= 7; lane++) {
            x.cls(GUISE, NONE);
            due("variable of LANE " + lane, x.variable(lane, lane), 0);
            x.member(lane, GETTER, 0, 9, 0, 0);
            x.scan(lane);
            due("its bound's LANE", x.entry(0, 3), lane);
        }
        due("lane 8", x.variable(0, 8), OUTSIDE);
        due("lane -1", x.variable(0, -1), OUTSIDE);
        due("no CLASS and lane 8", x.variable(8, 8), UNKNOWN);
        due("the second", x.variable(0, LONGS), 1);
        due("the third", x.variable(0, LONGS), FULL);
        due("the third, of lane 8", x.variable(0, 8), OUTSIDE);
        due("says 3", x.says(0, 3), 2);
    }

    private static void promise5Member() {
        promise = 5;
        MemberScanner x = new MemberScanner();
        for (int form = 0; form <= 4; form++) {
            x.cls(form, NONE);
        }
        x.cls(BODY, CHOICES);
        for (int form = 0; form <= 5; form++) {
            due("a FIELD of FORM " + form, x.member(form, FIELD, 1, INTS, 0, 0), form == GUISE ? STATE : 0);
            due("a STATIC FIELD of FORM " + form, x.member(form, FIELD, 2, INTS, 0, STATIC), form == GUISE ? 0 : 1);
            due("a GETTER of FORM " + form, x.member(form, GETTER, 3, INTS, 0, 0), form == GUISE ? 1 : 2);
            due("a COMPONENT of FORM " + form, x.member(form, COMPONENT, 4, INTS, 0, 0), form == RECORD ? 3 : STATE);
        }
        due("no CLASS", x.member(6, 9, 99, 99, 9, 9), UNKNOWN);
        int[][] outside = {{3, 5, 3, 0, 0}, {-1, 5, 3, 0, 0}, {0, 31, 3, 0, 0}, {0, -1, 3, 0, 0}, {0, 5, 11, 0, 0},
            {0, 5, -1, 0, 0}, {0, 5, 3, 3, 0}, {0, 5, 3, -1, 0}, {0, 5, 3, 0, 8}, {0, 5, 3, 0, -1}};
        for (int[] m : outside) {
            due("an odd number", x.member(0, m[0], m[1], m[2], m[3], m[4]), OUTSIDE);
        }
        due("OUTSIDE goes before STATE", x.member(GUISE, FIELD, 31, INTS, 0, 0), OUTSIDE);
        due("of that SORT and NAME", x.member(0, FIELD, 1, LONGS, 2, HIDDEN), STATE);
        due("of that NAME, of another SORT", x.member(0, GETTER, 1, INTS, 0, 7), 3);
        due("no VARIABLE 0", x.member(0, FIELD, 5, 9, 0, 0), STATE);
        x.variable(0, CHARS);
        due("VARIABLE 0", x.member(0, FIELD, 5, 9, 0, 0), 4);
        due("no VARIABLE 1", x.member(0, FIELD, 6, 10, 0, 0), STATE);
        x.variable(0, TRUTHS);
        due("VARIABLE 1", x.member(0, FIELD, 30, 10, 2, 0), 5);
        x.cls(PLAIN, 0);
        due("a VARIABLE of its PARENT", x.member(6, FIELD, 5, 9, 0, 0), STATE);
        for (int name = 10; name < 16; name++) {
            due("more", x.member(0, FIELD, name, THINGS, 0, 0), name - 4);
        }
        due("the 13th", x.member(0, FIELD, 16, INTS, 0, 0), FULL);
        due("the 13th, which it has: STATE goes first", x.member(0, FIELD, 15, INTS, 0, 0), STATE);
        due("says 4", x.says(0, 4), 12);
    }

    private static void promise6Says() {
        promise = 6;
        MemberScanner x = new MemberScanner();
        x.cls(ABSTRACT, NONE);
        x.cls(PLAIN, 0);
        x.cls(GUISE, NONE);
        x.cls(GUISE, NONE);
        x.cls(RECORD, NONE);
        x.cls(CHOICES, NONE);
        x.cls(BODY, 5);
        x.face(1, 2);
        x.face(2, 3);
        x.face(0, 3);
        x.variable(1, INTS);
        x.member(1, FIELD, 0, INTS, 0, 0);
        x.member(1, FIELD, 1, INTS, 0, STATIC);
        int[] due = {PLAIN, 0, 1, 1, 2, 4, 0, 10, 0};
        for (int what = 0; what <= 8; what++) {
            due("says(1, " + what + ")", x.says(1, what), due[what]);
        }
        int[] costs = {5, 10, 7, 7, 12, 5, 6};
        for (int c = 0; c < costs.length; c++) {
            due("COST of " + c, x.says(c, 7), costs[c]);
        }
        due("no PARENT", x.says(0, 1), NONE);
        x.hold(1, 20, 1);
        due("HELD now", x.says(1, 8), 0);
        x.make(1);
        int[] started = {1, 1, 0, 0, 0, 0, 0};
        for (int c = 0; c < started.length; c++) {
            due("STARTED of " + c, x.says(c, 6), started[c]);
        }
        due("what 9", x.says(0, 9), OUTSIDE);
        due("what -1", x.says(0, -1), OUTSIDE);
        due("no CLASS, what 9", x.says(7, 9), UNKNOWN);
        due("CLASS -1", x.says(-1, 0), UNKNOWN);
    }

    private static void dueWay(MemberScanner x, int c, int... way) {
        for (int i = 0; i < way.length; i++) {
            due("way(" + c + ", " + i + ")", x.way(c, i), way[i]);
        }
        due("way(" + c + ", behind the last)", x.way(c, way.length), NONE);
        due("how many on the WAY of " + c, x.says(c, 5), way.length);
    }

    private static void promise7Way() {
        promise = 7;
        MemberScanner x = new MemberScanner();
        x.cls(PLAIN, NONE);
        x.cls(ABSTRACT, 0);
        x.cls(PLAIN, 1);
        for (int i = 3; i <= 9; i++) {
            x.cls(GUISE, NONE);
        }
        dueWay(x, 2, 2, 1, 0);
        x.face(0, 9);
        x.face(1, 8);
        x.face(2, 5);
        dueWay(x, 2, 2, 1, 0, 5, 8, 9);
        x.face(5, 4);
        x.face(5, 9);
        x.face(4, 3);
        x.face(2, 3);
        x.face(2, 7);
        dueWay(x, 2, 2, 1, 0, 5, 4, 3, 9, 7, 8);
        dueWay(x, 5, 5, 4, 3, 9);
        dueWay(x, 1, 1, 0, 8, 9);
        due("way(2, -1)", x.way(2, -1), NONE);
        due("way(2, NONE)", x.way(2, NONE), NONE);
        due("way(2, LOW)", x.way(2, LOW), NONE);
        due("way(2, HIGH)", x.way(2, HIGH), NONE);
        due("no CLASS", x.way(10, 0), UNKNOWN);
        MemberScanner z = new MemberScanner();
        for (int i = 0; i < 8; i++) {
            z.cls(PLAIN, i == 0 ? NONE : i - 1);
        }
        dueWay(z, 7, 7, 6, 5, 4, 3, 2, 1, 0);
        MemberScanner y = new MemberScanner();
        for (int i = 0; i < 40; i++) {
            y.cls(GUISE, NONE);
        }
        for (int i = 0; i < 39; i++) {
            y.face(i, i + 1);
        }
        due("the WAY of 40 GUISES", y.says(0, 5), 40);
        due("its last", y.way(0, 39), 39);
    }

    private static void promise8Below() {
        promise = 8;
        MemberScanner x = new MemberScanner();
        x.cls(PLAIN, NONE);
        x.cls(PLAIN, 0);
        x.cls(GUISE, NONE);
        x.cls(GUISE, NONE);
        x.face(0, 2);
        x.face(2, 3);
        due("itself", x.below(1, 1), 1);
        due("its PARENT", x.below(1, 0), 1);
        due("the other way", x.below(0, 1), 0);
        due("its PARENT's GUISE's GUISE", x.below(1, 3), 1);
        due("a GUISE and its CLASS", x.below(3, 1), 0);
        due("no CLASS", x.below(4, 0), UNKNOWN);
        due("below no CLASS", x.below(0, 4), UNKNOWN);
        due("below NONE", x.below(0, NONE), UNKNOWN);
    }

    private static void promise9Scan() {
        promise = 9;
        MemberScanner x = new MemberScanner();
        x.cls(PLAIN, NONE);
        x.cls(PLAIN, 0);
        x.cls(GUISE, NONE);
        x.face(0, 2);
        due("nothing there", x.scan(1), 0);
        x.member(0, FIELD, 7, INTS, 1, 0);
        x.member(1, GETTER, 7, INTS, 1, 0);
        x.member(2, GETTER, 3, LONGS, 0, 0);
        x.member(1, FIELD, 9, INTS, 0, HIDDEN);
        x.member(1, FIELD, 8, INTS, 0, STATIC);
        x.member(1, FIELD, 6, INTS, 0, HIDDEN | KEY);
        due("neither HIDDEN nor STATIC", x.scan(1), 2);
        due("the PARENT's", x.scan(0), 2);
        due("a GUISE is SCANNED, too", x.scan(2), 1);
        due("nothing STARTS", x.told(3), 0);
        due("no CLASS", x.scan(3), UNKNOWN);
        due("what was SCANNED stays", x.told(2), 1);
        due("its NAME", x.entry(0, 0), 3);
        x.member(0, FIELD, 3, INTS, 0, 0);
        due("a CLASH", x.scan(1), -22);
        due("there is no TABLE", x.told(2), 0);
        due("nor an ENTRY", x.entry(0, 0), UNKNOWN);
        x.member(0, FIELD, 30, INTS, 0, HIDDEN | STATIC | KEY);
        due("a STATIC KEY goes first, HIDDEN or not", x.scan(1), -21);
        due("the GUISE is as it was", x.scan(2), 1);
        MemberScanner y = new MemberScanner();
        y.cls(RECORD, NONE);
        y.member(0, COMPONENT, 1, INTS, 0, KEY);
        y.member(0, GETTER, 1, INTS, 0, KEY);
        due("one KEY twice is one", y.scan(0), 1);
        y.member(0, FIELD, 2, THINGS, 2, KEY);
        due("two KEYS", y.scan(0), -23);
        y.member(0, GETTER, 2, THINGS, 1, 0);
        due("a CLASH goes before two KEYS", y.scan(0), -22);
    }

    /** The SORT counts, never the order in which MEMBERS came. */
    private static void promise9ScanIsTheSameInAnyOrder() {
        promise = 9;
        int[][] orders = {{0, 1, 2}, {0, 2, 1}, {1, 0, 2}, {1, 2, 0}, {2, 0, 1}, {2, 1, 0}};
        for (int[] order : orders) {
            MemberScanner x = new MemberScanner();
            x.cls(RECORD, NONE);
            for (int sort : order) {
                x.member(0, sort, 5, INTS, 0, sort == COMPONENT ? KEY : 0);
                x.member(0, sort, 20 - sort, CHARS, sort, 0);
            }
            due("scan", x.scan(0), 4);
            due("SORT of the FIRST", x.entry(0, 2), FIELD);
            due("MARKS of all", x.entry(0, 5), KEY);
            due("its OWN", x.entry(0, 6), 3);
            due("the second NAME", x.entry(1, 0), 18);
            due("the last NAME", x.entry(3, 0), 20);
        }
    }

    private static void dueBroken(MemberScanner x, int rule, int name, int c, int other) {
        due("broken(0)", x.broken(0), rule);
        due("broken(1)", x.broken(1), name);
        due("broken(2)", x.broken(2), c);
        due("broken(3)", x.broken(3), other);
    }

    private static void promise10Broken() {
        promise = 10;
        MemberScanner x = new MemberScanner();
        dueBroken(x, 0, NONE, NONE, NONE);
        x.cls(PLAIN, NONE);
        x.cls(PLAIN, 0);
        x.cls(GUISE, NONE);
        x.cls(GUISE, NONE);
        x.face(1, 2);
        x.face(0, 3);
        x.member(0, FIELD, 9, INTS, 0, KEY);
        x.member(3, GETTER, 4, INTS, 0, KEY);
        x.scan(1);
        dueBroken(x, 3, 9, 0, NONE);
        x.member(2, GETTER, 9, INTS, 1, 0);
        x.member(3, GETTER, 9, INTS, 2, 0);
        x.scan(1);
        dueBroken(x, 2, 9, 0, 2);
        x.scan(0);
        dueBroken(x, 2, 9, 0, 3);
        x.member(1, GETTER, 5, INTS, 0, 0);
        x.member(1, FIELD, 5, INTS, 0, 0);
        x.member(3, GETTER, 5, SHORTS, 0, 0);
        x.scan(1);
        dueBroken(x, 2, 5, 1, 3);
        x.member(0, FIELD, 5, INTS, 0, STATIC | KEY);
        x.member(3, FIELD, 5, INTS, 0, STATIC | KEY | HIDDEN);
        x.member(3, FIELD, 6, INTS, 0, STATIC | KEY);
        x.scan(1);
        dueBroken(x, 1, 5, 0, NONE);
        x.scan(3);
        dueBroken(x, 1, 5, 3, NONE);
        x.member(2, FIELD, 2, INTS, 0, STATIC | KEY);
        x.scan(1);
        dueBroken(x, 1, 2, 2, NONE);
        due("UNKNOWN stays", x.scan(9), UNKNOWN);
        dueBroken(x, 1, 2, 2, NONE);
        x.make(1);
        dueBroken(x, 1, 2, 2, NONE);
        x.cls(PLAIN, NONE);
        x.scan(4);
        dueBroken(x, 0, NONE, NONE, NONE);
        due("broken(4)", x.broken(4), OUTSIDE);
        due("broken(-1)", x.broken(-1), OUTSIDE);
        x.member(4, FIELD, 1, INTS, 0, 0);
        x.member(4, GETTER, 1, INTS, 1, 0);
        x.scan(4);
        dueBroken(x, 2, 1, 4, 4);
        x.cls(PLAIN, NONE);
        x.scan(5);
        dueBroken(x, 0, NONE, NONE, NONE);
    }

    private static void dueEntry(MemberScanner x, int i, int... due) {
        for (int what = 0; what < due.length; what++) {
            due("entry(" + i + ", " + what + ")", x.entry(i, what), due[what]);
        }
    }

    private static void promise11Entry() {
        promise = 11;
        MemberScanner x = new MemberScanner();
        due("no TABLE", x.entry(0, 0), UNKNOWN);
        x.cls(PLAIN, NONE);
        x.cls(PLAIN, 0);
        x.cls(GUISE, NONE);
        x.face(1, 2);
        x.variable(0, FLOATS);
        x.member(0, GETTER, 30, 9, 2, 0);
        x.member(0, FIELD, 30, FLOATS, 2, 0);
        x.member(2, GETTER, 30, FLOATS, 2, KEY);
        x.member(1, FIELD, 30, FLOATS, 2, HIDDEN);
        x.member(2, GETTER, 0, THINGS, 1, 0);
        x.scan(1);
        dueEntry(x, 0, 0, 2, GETTER, THINGS, 1, 0, 1);
        dueEntry(x, 1, 30, 0, FIELD, FLOATS, 2, KEY, 3);
        due("entry(2, 0)", x.entry(2, 0), UNKNOWN);
        due("entry(2, 7): UNKNOWN goes first", x.entry(2, 7), UNKNOWN);
        due("entry(-1, 0)", x.entry(-1, 0), UNKNOWN);
        due("entry(0, 7)", x.entry(0, 7), OUTSIDE);
        due("entry(0, -1)", x.entry(0, -1), OUTSIDE);
        x.member(1, FIELD, 15, INTS, 0, 0);
        x.make(1);
        dueEntry(x, 1, 30, 0, FIELD, FLOATS, 2, KEY, 3);
        due("a TABLE is as it was SCANNED", x.told(2), 2);
        x.scan(0);
        dueEntry(x, 0, 30, 0, FIELD, FLOATS, 2, 0, 2);
    }

    private static void promise12Tally() {
        promise = 12;
        MemberScanner x = new MemberScanner();
        for (int form = 0; form <= 4; form++) {
            x.cls(form, NONE);
        }
        x.cls(BODY, CHOICES);
        for (int form = 0; form <= 5; form++) {
            due("as a CLASS", x.tally(form, 0, form + 1), form + 1);
            due("as a CLASS again", x.tally(form, 0, 100), form + 101);
            boolean isPlain = form == PLAIN || form == RECORD;
            if (isPlain) {
                due("as a PLAIN one", x.tally(form, 1, 7), 7);
                due("fault()", x.fault(), 0);
            } else {
                dueFault("as a PLAIN one", x, x.tally(form, 1, 7), CAST);
            }
            if (form == RECORD) {
                due("as a RECORD", x.tally(form, 2, -5), -5);
            } else {
                dueFault("as a RECORD", x, x.tally(form, 2, -5), CAST);
            }
            due("no other TALLY came in between", x.tally(form, 0, 0), form + 101);
        }
        due("the second one of a RECORD", x.tally(RECORD, 1, 1), 8);
        due("the third one", x.tally(RECORD, 2, 1), -4);
        x.tally(PLAIN, 1, HIGH - 7);
        due("going round", x.tally(PLAIN, 1, 1), LOW);
        x.trial(NULL, 0);
        dueRefused("no CLASS", x, x.tally(6, 3, 1), UNKNOWN);
        dueRefused("as 3", x, x.tally(0, 3, 1), OUTSIDE);
        dueRefused("as -1", x, x.tally(1, -1, 1), OUTSIDE);
    }

    private static void promise13Offer() {
        promise = 13;
        MemberScanner x = new MemberScanner();
        for (int form = 0; form <= 4; form++) {
            x.cls(form, NONE);
        }
        x.cls(BODY, CHOICES);
        for (int form = 0; form <= 5; form++) {
            x.member(form, GETTER, 1, INTS, 0, 0);
            x.member(form, GETTER, 2, INTS, 0, HIDDEN);
            x.member(form, GETTER, 3, INTS, 0, STATIC);
        }
        for (int form : new int[] {ABSTRACT, GUISE, CHOICES, BODY}) {
            dueFault("offer of FORM " + form, x, x.offer(form), CAST);
        }
        due("a PLAIN one's", x.offer(PLAIN), 13);
        due("fault()", x.fault(), 0);
        due("a RECORD's", x.offer(RECORD), 24);
        x.trial(NULL, 0);
        dueRefused("no CLASS", x, x.offer(6), UNKNOWN);
    }

    private static void promise14Hold() {
        promise = 14;
        MemberScanner x = new MemberScanner();
        x.cls(CHOICES, NONE);
        x.tally(0, 0, 5);
        due("20 times", x.hold(0, 20, 3), 65);
        due("once", x.hold(0, 1, -65), 0);
        due("going round", x.hold(0, 2, HIGH), -2);
        due("the TALLY as a CLASS", x.tally(0, 0, 0), -2);
        due("0 times", x.hold(0, 0, 1), OUTSIDE);
        due("21 times", x.hold(0, 21, 1), OUTSIDE);
        due("-1 times", x.hold(0, -1, 1), OUTSIDE);
        due("no CLASS", x.hold(1, 0, 1), UNKNOWN);
        due("nothing came", x.hold(0, 1, 0), -2);
        due("HELD now", x.says(0, 8), 0);
        x.trial(ZERO, 3);
        x.hold(0, 99, 1);
        due("it names no FAULT", x.fault(), ZERO);
    }

    private static void promise15Make() {
        promise = 15;
        MemberScanner x = new MemberScanner();
        for (int form = 0; form <= 4; form++) {
            x.cls(form, NONE);
        }
        x.cls(BODY, CHOICES);
        x.cls(PLAIN, PLAIN);
        for (int form : new int[] {ABSTRACT, GUISE, CHOICES, BODY}) {
            due("make of FORM " + form, x.make(form), STATE);
        }
        due("no CLASS", x.make(7), UNKNOWN);
        due("nothing STARTED", x.told(3), 0);
        due("a PLAIN one", x.make(6), 0);
        due("all above STARTED", x.told(3), 2);
        due("a RECORD", x.make(RECORD), 1);
        x.scan(0);
        x.member(PLAIN, FIELD, 1, INTS, 0, 0);
        due("with one SLOT", x.make(6), 2);
        due("what was SCANNED stays", x.told(2), 0);
        due("an OBJECT stays as it was made", x.of(0, 1), 0);
        due("its SLOTS", x.of(2, 1), 1);
        x.member(6, GETTER, 1, LONGS, 0, 0);
        due("a RULE is against it", x.make(6), STATE);
        while (x.told(1) < 60) {
            x.make(0);
        }
        due("the 61st", x.make(0), FULL);
        due("the 61st of what can not be made", x.make(6), STATE);
        due("60", x.told(1), 60);
        MemberScanner y = new MemberScanner();
        y.cls(PLAIN, NONE);
        y.cls(PLAIN, 0);
        for (int name = 0; name < 16; name++) {
            y.member(name % 2, FIELD, name, INTS, 0, 0);
        }
        due("16 ENTRIES", y.make(1), 0);
        y.member(1, FIELD, 16, INTS, 0, 0);
        due("17 ENTRIES", y.make(1), FULL);
        due("17 are SCANNED", y.scan(1), 17);
        y.cls(GUISE, NONE);
        y.face(0, 2);
        y.make(0);
        due("a GUISE does not START", y.says(2, 6), 0);
        MemberScanner z = new MemberScanner();
        for (int i = 0; i < 8; i++) {
            z.cls(i % 2, i == 0 ? NONE : i - 1);
        }
        z.make(6);
        due("7 of 8 STARTED", z.told(3), 7);
        z.cls(PLAIN, 6);
        z.make(8);
        due("with 7 above it", z.told(3), 8);
    }

    private static void promise16Of() {
        promise = 16;
        MemberScanner x = new MemberScanner();
        x.cls(GUISE, NONE);
        x.cls(RECORD, NONE);
        x.member(1, COMPONENT, 1, INTS, 0, 0);
        x.member(1, COMPONENT, 2, INTS, 0, 0);
        x.make(1);
        due("of(0, 0)", x.of(0, 0), 1);
        due("of(0, 1)", x.of(0, 1), 2);
        due("of(0, 2)", x.of(0, 2), OUTSIDE);
        due("of(0, -1)", x.of(0, -1), OUTSIDE);
        due("of(1, 9)", x.of(1, 9), UNKNOWN);
        due("of(-1, 0)", x.of(-1, 0), UNKNOWN);
    }

    private static void promise17Slot() {
        promise = 17;
        MemberScanner x = new MemberScanner();
        x.cls(PLAIN, NONE);
        x.member(0, FIELD, 30, INTS, 0, 0);
        x.member(0, FIELD, 0, INTS, 0, 0);
        x.member(0, FIELD, 5, INTS, 0, HIDDEN);
        x.make(0);
        due("slot(0, 0)", x.slot(0, 0), 0);
        due("slot(0, 30)", x.slot(0, 30), 1);
        due("a HIDDEN one", x.slot(0, 5), NONE);
        due("slot(0, 31)", x.slot(0, 31), NONE);
        due("slot(0, -1)", x.slot(0, -1), NONE);
        due("slot(1, 0)", x.slot(1, 0), UNKNOWN);
    }

    private static void promise18Kind() {
        promise = 18;
        MemberScanner x = new MemberScanner();
        x.cls(PLAIN, NONE);
        x.variable(0, DOUBLES);
        x.member(0, FIELD, 4, 9, 2, KEY);
        x.member(0, FIELD, 2, THINGS, 1, 0);
        x.make(0);
        int[][] due = {{2, THINGS, 1, 0}, {4, DOUBLES, 2, KEY}};
        for (int s = 0; s < 2; s++) {
            for (int what = 0; what < 4; what++) {
                due("kind(0, " + s + ", " + what + ")", x.kind(0, s, what), due[s][what]);
            }
        }
        due("what 4", x.kind(0, 0, 4), OUTSIDE);
        due("what -1", x.kind(0, 0, -1), OUTSIDE);
        due("SLOT 2, what 4", x.kind(0, 2, 4), UNKNOWN);
        due("SLOT -1", x.kind(0, -1, 0), UNKNOWN);
        due("OBJECT 1", x.kind(1, 0, 0), UNKNOWN);
    }

    private static void promise19Row() {
        promise = 19;
        MemberScanner x = depths(INTS);
        dueRefused("no OBJECT", x, x.row(2, 1, 31), UNKNOWN);
        dueRefused("no SLOT", x, x.row(0, 3, 31), UNKNOWN);
        dueRefused("31 CELLS", x, x.row(0, 1, 31), OUTSIDE);
        dueRefused("31 CELLS, DEPTH 0", x, x.row(0, 0, 31), OUTSIDE);
        dueRefused("DEPTH 0", x, x.row(0, 0, 1), STATE);
        dueRefused("DEPTH 0, -1 CELLS", x, x.row(0, 0, -1), STATE);
        for (int s = 1; s <= 2; s++) {
            dueFault("-1 CELLS", x, x.row(0, s, -1), SIZE);
            dueFault("a FAULT changed nothing", x, x.size(0, s, NONE), NULL);
            due("30", x.row(0, s, 30), 1);
            due("fault()", x.fault(), 0);
            due("30 there", x.size(0, s, NONE), 30);
            dueFault("LOW CELLS", x, x.row(0, s, LOW), SIZE);
            due("still 30 there", x.size(0, s, NONE), 30);
            due("0", x.row(0, s, 0), 1);
            due("0 there", x.size(0, s, NONE), 0);
        }
        x.row(0, 1, 2);
        x.set(0, 1, 1, 0, 9);
        x.row(0, 1, 2);
        due("a new ROW", x.get(0, 1, 1, 0), 0);
        x.row(0, 2, 2);
        x.inner(0, 2, 1, 3);
        x.row(0, 2, 2);
        dueFault("new places", x, x.size(0, 2, 1), NULL);
        due("the other OBJECT has its own", x.row(1, 1, 5), 1);
        due("as it was", x.size(0, 1, NONE), 2);
    }

    private static void promise20Inner() {
        promise = 20;
        MemberScanner x = depths(LONGS);
        dueRefused("no OBJECT", x, x.inner(2, 2, 0, 31), UNKNOWN);
        dueRefused("31 CELLS", x, x.inner(0, 1, 0, 31), OUTSIDE);
        dueRefused("DEPTH 1", x, x.inner(0, 1, 0, -1), STATE);
        dueRefused("DEPTH 0", x, x.inner(0, 0, 0, 1), STATE);
        dueFault("SIZE goes before NULL", x, x.inner(0, 2, 0, -1), SIZE);
        dueFault("nothing there", x, x.inner(0, 2, 5, 1), NULL);
        x.row(0, 2, 2);
        dueFault("SIZE goes before INDEX", x, x.inner(0, 2, 2, -1), SIZE);
        dueFault("place 2", x, x.inner(0, 2, 2, 1), INDEX);
        dueFault("place -1", x, x.inner(0, 2, -1, 1), INDEX);
        due("30 CELLS", x.inner(0, 2, 1, 30), 1);
        due("fault()", x.fault(), 0);
        due("they are there", x.size(0, 2, 1), 30);
        x.set(0, 2, 1, 0, 5);
        due("0 CELLS", x.inner(0, 2, 0, 0), 1);
        due("the next place is as it was", x.get(0, 2, 1, 0), 5);
        x.inner(0, 2, 1, 1);
        due("a new ROW", x.get(0, 2, 1, 0), 0);
    }

    private static void promise21Drop() {
        promise = 21;
        MemberScanner x = depths(THINGS);
        due("no OBJECT", x.drop(2, 0), UNKNOWN);
        due("no SLOT", x.drop(0, 3), UNKNOWN);
        due("DEPTH 0", x.drop(0, 0), STATE);
        for (int s = 1; s <= 2; s++) {
            due("nothing there", x.drop(0, s), 0);
            x.row(0, s, 0);
            due("a ROW of none", x.drop(0, s), 1);
            due("again", x.drop(0, s), 0);
            dueFault("nothing is there now", x, x.size(0, s, NONE), NULL);
        }
        x.trial(KIND, 15);
        x.drop(0, 0);
        due("it names no FAULT", x.fault(), KIND);
    }

    private static void promise22Size() {
        promise = 22;
        MemberScanner x = depths(TRUTHS);
        dueRefused("no OBJECT", x, x.size(2, 0, 0), UNKNOWN);
        dueRefused("no SLOT", x, x.size(0, 3, 0), UNKNOWN);
        due("DEPTH 0", x.size(0, 0, NONE), 1);
        dueFault("a place of DEPTH 0", x, x.size(0, 0, 0), CAST);
        for (int s = 1; s <= 2; s++) {
            dueFault("nothing", x, x.size(0, s, NONE), NULL);
            dueFault("a place of nothing is no CAST", x, x.size(0, s, 0), NULL);
            x.row(0, s, 3);
            due("3", x.size(0, s, NONE), 3);
            due("fault()", x.fault(), 0);
        }
        dueFault("a place of a ROW of CELLS", x, x.size(0, 1, 99), CAST);
        dueFault("a place with nothing", x, x.size(0, 2, 2), NULL);
        dueFault("place 3", x, x.size(0, 2, 3), INDEX);
        dueFault("place -1", x, x.size(0, 2, -1), INDEX);
        dueFault("place -8", x, x.size(0, 2, -8), INDEX);
        x.inner(0, 2, 2, 7);
        due("7", x.size(0, 2, 2), 7);
    }

    private static void promise23Get() {
        promise = 23;
        for (int lane = 0; lane <= 8; lane++) {
            long start = lane == THINGS ? NONE : 0;
            MemberScanner x = depths(lane);
            dueRefused("no OBJECT", x, x.get(2, 0, 0, 0), 0);
            dueRefused("no SLOT", x, x.get(0, -1, 0, 0), 0);
            due("DEPTH 0", x.get(0, 0, 0, HIGH), start);
            due("fault()", x.fault(), 0);
            dueZero("CELL 1 of DEPTH 0", x, x.get(0, 0, 1, 0), INDEX);
            dueZero("CELL -1 of DEPTH 0", x, x.get(0, 0, -1, 0), INDEX);
            dueZero("nothing at DEPTH 1", x, x.get(0, 1, 5, 0), NULL);
            dueZero("nothing at DEPTH 2", x, x.get(0, 2, 5, 0), NULL);
            x.row(0, 1, 2);
            x.row(0, 2, 2);
            due("DEPTH 1", x.get(0, 1, 1, LOW), start);
            dueZero("CELL 2", x, x.get(0, 1, 2, 0), INDEX);
            dueZero("CELL -1", x, x.get(0, 1, -1, 0), INDEX);
            dueZero("place 2", x, x.get(0, 2, 2, 0), INDEX);
            dueZero("place -1", x, x.get(0, 2, -1, 0), INDEX);
            dueZero("place 1 has nothing", x, x.get(0, 2, 1, 9), NULL);
            x.inner(0, 2, 1, 1);
            due("DEPTH 2", x.get(0, 2, 1, 0), start);
            due("fault()", x.fault(), 0);
            dueZero("CELL 1 at place 1", x, x.get(0, 2, 1, 1), INDEX);
            dueZero("CELL -1 at place 1", x, x.get(0, 2, 1, -1), INDEX);
            int faults = x.told(4);
            x.get(0, 2, 1, -1);
            due("FAULTS are counted", x.told(4), faults + 1);
        }
    }

    private static void dueBecomes(MemberScanner x, int lane, long v, long told) {
        due("set of LANE " + lane, x.set(0, lane, 0, 0, v), 1);
        due("LANE " + lane + " becomes " + v, x.get(0, lane, 0, 0), told);
    }

    private static void promise24Set() {
        promise = 24;
        MemberScanner x = lanes(1);
        dueBecomes(x, BYTES, 128, -128);
        dueBecomes(x, BYTES, -129, 127);
        dueBecomes(x, BYTES, 256, 0);
        dueBecomes(x, SHORTS, 32768, -32768);
        dueBecomes(x, SHORTS, -1, -1);
        dueBecomes(x, CHARS, -1, 65535);
        dueBecomes(x, CHARS, 65536, 0);
        dueBecomes(x, INTS, 1L << 31, LOW);
        dueBecomes(x, INTS, 1L << 32, 0);
        dueBecomes(x, LONGS, Long.MIN_VALUE, Long.MIN_VALUE);
        dueBecomes(x, FLOATS, bits(0.1), bits(0.1f));
        dueBecomes(x, FLOATS, bits(-0.0), bits(-0.0));
        dueBecomes(x, FLOATS, bits(1e39), bits(Double.POSITIVE_INFINITY));
        dueBecomes(x, FLOATS, bits(-1e-46), bits(-0.0));
        dueBecomes(x, FLOATS, bits(1e-45), bits(Float.MIN_VALUE));
        dueBecomes(x, FLOATS, bits(16777217.0), bits(16777216.0));
        dueBecomes(x, FLOATS, bits(16777219.0), bits(16777220.0));
        dueBecomes(x, FLOATS, 0xfff0000000000001L, NAN);
        dueBecomes(x, FLOATS, bits(Double.NEGATIVE_INFINITY), bits(Double.NEGATIVE_INFINITY));
        dueBecomes(x, DOUBLES, bits(0.1), bits(0.1));
        dueBecomes(x, DOUBLES, bits(-0.0), bits(-0.0));
        dueBecomes(x, DOUBLES, 0x7ff0000000000001L, NAN);
        dueBecomes(x, DOUBLES, -1, NAN);
        dueBecomes(x, DOUBLES, bits(Double.POSITIVE_INFINITY), bits(Double.POSITIVE_INFINITY));
        dueBecomes(x, DOUBLES, 1, 1);
        dueBecomes(x, TRUTHS, 1L << 40, 1);
        dueBecomes(x, TRUTHS, -1, 1);
        dueBecomes(x, TRUTHS, 0, 0);
        x.trial(NULL, 0);
        dueRefused("THINGS", x, x.set(0, THINGS, 5, 0, 0), STATE);
        dueRefused("no OBJECT", x, x.set(1, 0, 0, 0, 0), UNKNOWN);
        dueRefused("no SLOT", x, x.set(0, 9, 0, 0, 0), UNKNOWN);
        MemberScanner y = depths(INTS);
        dueFault("nothing", y, y.set(0, 1, 0, 0, 1), NULL);
        dueFault("nothing", y, y.set(0, 2, 9, 9, 1), NULL);
        dueFault("CELL 1", y, y.set(0, 0, 1, 0, 1), INDEX);
        y.row(0, 2, 2);
        dueFault("place 2", y, y.set(0, 2, 2, 0, 1), INDEX);
        dueFault("place with nothing", y, y.set(0, 2, 1, 0, 1), NULL);
        y.inner(0, 2, 1, 2);
        dueFault("CELL 2 at place 1", y, y.set(0, 2, 1, 2, 1), INDEX);
        due("CELL 1 at place 1", y.set(0, 2, 1, 1, 8), 1);
        due("fault()", y.fault(), 0);
        due("it is there", y.get(0, 2, 1, 1), 8);
        due("and nowhere else", y.get(0, 2, 1, 0), 0);
    }

    private static void promise25Link() {
        promise = 25;
        MemberScanner x = depths(THINGS);
        due("at first", x.get(0, 0, 0, 0), NONE);
        due("an OBJECT", x.link(0, 0, 0, 77, 1), 1);
        due("it is told", x.get(0, 0, 0, 0), 1);
        due("itself", x.link(0, 0, 0, 0, 0), 1);
        due("it is told", x.get(0, 0, 0, 0), 0);
        due("nothing", x.link(0, 0, 0, 0, NONE), 1);
        due("it is told", x.get(0, 0, 0, 0), NONE);
        x.trial(STORE, 0);
        dueRefused("no OBJECT", x, x.link(2, 0, 0, 0, 0), UNKNOWN);
        dueRefused("no SLOT", x, x.link(0, 3, 0, 0, 0), UNKNOWN);
        dueRefused("an OBJECT that there is none", x, x.link(0, 0, 0, 0, 2), UNKNOWN);
        dueRefused("OBJECT -1", x, x.link(0, 0, 9, 0, -1), UNKNOWN);
        dueFault("nothing there", x, x.link(0, 1, 0, 0, 1), NULL);
        dueFault("CELL 1", x, x.link(0, 0, 1, 0, 1), INDEX);
        x.row(0, 2, 1);
        dueFault("place 1", x, x.link(0, 2, 1, 0, 1), INDEX);
        dueFault("place 0 has nothing", x, x.link(0, 2, 0, 0, 1), NULL);
        x.inner(0, 2, 0, 2);
        dueFault("CELL 2 at place 0", x, x.link(0, 2, 0, 2, 1), INDEX);
        due("CELL 1 at place 0", x.link(0, 2, 0, 1, 1), 1);
        due("it is told", x.get(0, 2, 0, 1), 1);
        MemberScanner y = depths(LONGS);
        dueRefused("no THINGS", y, y.link(0, 1, 0, 0, 1), STATE);
        dueRefused("no THINGS and no OBJECT", y, y.link(0, 0, 0, 0, 2), UNKNOWN);
    }

    private static void promise26As() {
        promise = 26;
        for (int lane = 0; lane <= 8; lane++) {
            MemberScanner x = depths(lane);
            long value = lane == THINGS ? 1 : lane == FLOATS || lane == DOUBLES ? bits(1.5) : 1;
            x.row(0, 1, 2);
            if (lane == THINGS) {
                x.link(0, 1, 1, 0, 1);
            } else {
                x.set(0, 1, 1, 0, value);
            }
            x.trial(STORE, 0);
            for (int as = 0; as <= 8; as++) {
                if (as == lane) {
                    due("as " + as + " of " + lane, x.as(0, 1, 1, as), value);
                    due("fault()", x.fault(), 0);
                    dueZero("CELL 2", x, x.as(0, 1, 2, as), INDEX);
                    dueZero("CELL -1", x, x.as(0, 1, -1, as), INDEX);
                    due("DEPTH 0", x.as(0, 0, 0, as), lane == THINGS ? NONE : 0);
                } else {
                    dueZero("as " + as + " of " + lane, x, x.as(0, 1, 9, as), CAST);
                    dueZero("as " + as + " of " + lane + ", DEPTH 0", x, x.as(0, 0, 0, as), CAST);
                }
                dueZero("nothing is no CAST", x, x.as(1, 1, 9, as), NULL);
                dueZero("nothing at DEPTH 2 is no CAST", x, x.as(0, 2, 0, as), NULL);
            }
            x.row(0, 2, 1);
            x.inner(0, 2, 0, 1);
            dueZero("DEPTH 2", x, x.as(0, 2, 0, lane), CAST);
            dueRefused("lane 9", x, x.as(0, 1, 0, 9), 0);
            dueRefused("lane -1", x, x.as(0, 1, 0, -1), 0);
            dueRefused("no SLOT", x, x.as(0, 3, 0, lane), 0);
            dueRefused("no OBJECT", x, x.as(2, 0, 0, lane), 0);
        }
    }

    private static void promise27Wide() {
        promise = 27;
        String[] to = {"013456", "13456", "23456", "3456", "456", "56", "6", "7", ""};
        for (int from = 0; from <= 8; from++) {
            MemberScanner x = depths(from);
            x.row(0, 1, 1);
            x.set(0, 1, 0, 0, from == FLOATS || from == DOUBLES ? bits(1.0) : 1);
            for (int lane = 0; lane <= 7; lane++) {
                boolean may = to[from].indexOf('0' + lane) >= 0;
                if (may) {
                    due(from + " to " + lane, x.wide(0, 1, 0, lane), lane == FLOATS || lane == DOUBLES ? bits(1.0) : 1);
                    due("fault()", x.fault(), 0);
                } else {
                    dueZero(from + " to " + lane, x, x.wide(0, 1, 0, lane), KIND);
                }
                dueZero("nothing", x, x.wide(1, 1, 0, lane), NULL);
                dueZero("nothing at DEPTH 2", x, x.wide(1, 2, 0, lane), NULL);
                dueZero("CELL 1", x, x.wide(0, 1, 1, lane), from == THINGS ? KIND : INDEX);
                dueZero("CELL -1", x, x.wide(0, 0, -1, lane), from == THINGS ? KIND : INDEX);
            }
            x.row(0, 2, 1);
            dueZero("DEPTH 2", x, x.wide(0, 2, 9, Math.min(from, 7)), KIND);
            dueRefused("lane 8", x, x.wide(0, 1, 0, 8), 0);
            dueRefused("lane -1", x, x.wide(0, 1, 0, -1), 0);
            dueRefused("no SLOT", x, x.wide(0, 3, 0, 0), 0);
            dueRefused("no OBJECT", x, x.wide(2, 0, 0, 0), 0);
        }
        MemberScanner x = lanes(1);
        x.set(0, BYTES, 0, 0, -1);
        due("a BYTE to a LONG", x.wide(0, BYTES, 0, LONGS), -1);
        due("a BYTE to a FLOAT", x.wide(0, BYTES, 0, FLOATS), bits(-1));
        x.set(0, CHARS, 0, 0, -1);
        due("a CHAR to an INT", x.wide(0, CHARS, 0, INTS), 65535);
        x.set(0, INTS, 0, 0, 16777217);
        due("an INT to a FLOAT", x.wide(0, INTS, 0, FLOATS), bits(16777216f));
        due("an INT to a DOUBLE", x.wide(0, INTS, 0, DOUBLES), bits(16777217));
        x.set(0, LONGS, 0, 0, Long.MAX_VALUE);
        due("a LONG to a DOUBLE", x.wide(0, LONGS, 0, DOUBLES), bits(9.223372036854775807E18));
        // Rounded at once it is 2^53 + 2^30, by way of a double it would be 2^53.
        long twice = (1L << 53) + (1L << 29) + 1;
        x.set(0, LONGS, 0, 0, twice);
        due("a LONG to a FLOAT, rounded once", x.wide(0, LONGS, 0, FLOATS), bits((float) twice));
        x.set(0, FLOATS, 0, 0, bits(0.1));
        due("a FLOAT to a DOUBLE", x.wide(0, FLOATS, 0, DOUBLES), bits(0.1f));
    }

    private static void promise28Copy() {
        promise = 28;
        MemberScanner x = depths(INTS);
        x.trial(STORE, 0);
        dueFault("nothing in the first", x, x.copy(0, 1, 0, 0, 0, 0, 0), NULL);
        dueFault("nothing in the second", x, x.copy(0, 0, 0, 0, 1, 0, 0), NULL);
        dueFault("NULL goes before INDEX", x, x.copy(0, 0, -1, 0, 1, 0, 0), NULL);
        x.row(0, 1, 5);
        x.row(1, 1, 3);
        for (int i = 0; i < 5; i++) {
            x.set(0, 1, i, 0, i + 1);
        }
        due("to another one", x.copy(0, 1, 3, 1, 1, 1, 2), 2);
        due("fault()", x.fault(), 0);
        due("the first", x.get(1, 1, 1, 0), 4);
        due("the second", x.get(1, 1, 2, 0), 5);
        due("none ahead", x.get(1, 1, 0, 0), 0);
        due("upwards in one ROW", x.copy(0, 1, 0, 0, 1, 1, 4), 4);
        int[] due = {1, 1, 2, 3, 4};
        for (int i = 0; i < 5; i++) {
            due("CELL " + i + " as it was", x.get(0, 1, i, 0), due[i]);
        }
        due("downwards in one ROW", x.copy(0, 1, 2, 0, 1, 0, 3), 3);
        due("CELL 0", x.get(0, 1, 0, 0), 2);
        due("CELL 2", x.get(0, 1, 2, 0), 4);
        due("from DEPTH 1 to DEPTH 0", x.copy(0, 1, 4, 1, 0, 0, 1), 1);
        due("it is there", x.get(1, 0, 0, 0), 4);
        due("none at the end", x.copy(0, 1, 5, 1, 1, 3, 0), 0);
        dueFault("i beyond the end, with none", x, x.copy(0, 1, 6, 1, 1, 0, 0), INDEX);
        dueFault("k beyond the end, with none", x, x.copy(0, 1, 0, 1, 1, 4, 0), INDEX);
        dueFault("i below 0", x, x.copy(0, 1, -1, 1, 1, 0, 1), INDEX);
        dueFault("k below 0", x, x.copy(0, 1, 0, 1, 1, -1, 1), INDEX);
        dueFault("n below 0", x, x.copy(0, 1, 1, 1, 1, 1, -1), INDEX);
        dueFault("beyond the first's end", x, x.copy(0, 1, 3, 1, 1, 0, 3), INDEX);
        dueFault("beyond the second's end", x, x.copy(0, 1, 0, 1, 1, 1, 3), INDEX);
        dueFault("together they go round", x, x.copy(0, 1, 1, 1, 1, 1, HIGH), INDEX);
        dueFault("HIGH and HIGH", x, x.copy(0, 1, HIGH, 1, 1, HIGH, HIGH), INDEX);
        due("a FAULT changed nothing", x.get(1, 1, 0, 0), 0);
        x.row(0, 2, 1);
        dueRefused("from DEPTH 2", x, x.copy(0, 2, 0, 0, 1, 0, 0), STATE);
        dueRefused("to DEPTH 2", x, x.copy(0, 1, 0, 1, 2, 0, 0), STATE);
        dueRefused("no first OBJECT", x, x.copy(2, 1, 0, 0, 2, 0, 0), UNKNOWN);
        dueRefused("no second OBJECT", x, x.copy(0, 2, 0, 2, 1, 0, 0), UNKNOWN);
        dueRefused("no second SLOT", x, x.copy(0, 1, 0, 0, 3, 0, 0), UNKNOWN);
        MemberScanner y = lanes(1);
        dueRefused("unlike LANES", y, y.copy(0, BYTES, 0, 0, SHORTS, 0, 1), STATE);
        dueRefused("THINGS and INTS", y, y.copy(0, THINGS, 5, 0, INTS, 0, 1), STATE);
    }

    private static void promise29Follow() {
        promise = 29;
        MemberScanner x = new MemberScanner();
        x.cls(PLAIN, NONE);
        x.cls(PLAIN, NONE);
        x.member(0, FIELD, 0, THINGS, 0, 0);
        x.member(0, FIELD, 1, THINGS, 1, 0);
        x.member(0, FIELD, 2, THINGS, 2, 0);
        x.member(0, FIELD, 3, INTS, 1, 0);
        for (int o = 0; o < 3; o++) {
            x.make(0);
        }
        x.make(1);
        x.link(0, 0, 0, 0, 1);
        x.link(1, 0, 0, 0, 2);
        x.link(2, 0, 0, 0, 0);
        x.trial(STORE, 0);
        due("0 times", x.follow(0, 9, 0), 0);
        due("fault()", x.fault(), 0);
        due("once", x.follow(0, 0, 1), 1);
        due("20 times round", x.follow(0, 0, 20), 2);
        x.link(2, 0, 0, 0, 3);
        dueFault("an OBJECT without the SLOT", x, x.follow(0, 0, 4), KIND);
        due("up to it", x.follow(0, 0, 3), 3);
        x.link(2, 0, 0, 0, NONE);
        dueFault("a CELL with nothing", x, x.follow(0, 0, 3), NULL);
        dueFault("no SLOT of that NAME", x, x.follow(0, 30, 1), KIND);
        dueFault("nothing at DEPTH 1", x, x.follow(0, 1, 1), NULL);
        x.row(0, 1, 0);
        dueFault("no CELL 0", x, x.follow(0, 1, 1), INDEX);
        x.row(0, 1, 2);
        dueFault("CELL 0 with nothing", x, x.follow(0, 1, 1), NULL);
        x.link(0, 1, 0, 0, 2);
        x.link(0, 1, 1, 0, 1);
        due("CELL 0 at DEPTH 1", x.follow(0, 1, 1), 2);
        dueFault("nothing at DEPTH 2 is no CAST", x, x.follow(0, 2, 1), NULL);
        x.row(0, 2, 0);
        dueFault("DEPTH 2", x, x.follow(0, 2, 1), CAST);
        dueFault("nothing of INTS is no CAST", x, x.follow(0, 3, 1), NULL);
        x.row(0, 3, 0);
        dueFault("INTS", x, x.follow(0, 3, 1), CAST);
        dueRefused("no OBJECT", x, x.follow(4, 31, 21), UNKNOWN);
        dueRefused("name 31", x, x.follow(0, 31, 0), OUTSIDE);
        dueRefused("name -1", x, x.follow(0, -1, 0), OUTSIDE);
        dueRefused("21 times", x, x.follow(0, 0, 21), OUTSIDE);
        dueRefused("-1 times", x, x.follow(0, 0, -1), OUTSIDE);
    }

    private static void promise30Twin() {
        promise = 30;
        MemberScanner x = depths(INTS);
        x.row(0, 1, 2);
        x.set(0, 0, 0, 0, 5);
        x.set(0, 1, 1, 0, 6);
        x.row(0, 2, 3);
        x.inner(0, 2, 0, 1);
        x.inner(0, 2, 1, 1);
        x.set(0, 2, 0, 0, 8);
        x.set(0, 2, 1, 0, 7);
        x.member(0, FIELD, 20, INTS, 0, KEY);
        due("no OBJECT", x.twin(2), UNKNOWN);
        due("twin", x.twin(0), 2);
        due("its CLASS", x.of(2, 0), 0);
        due("as many SLOTS", x.of(2, 1), 3);
        due("alike", x.alike(0, 2), 1);
        due("DEPTH 0", x.get(2, 0, 0, 0), 5);
        due("DEPTH 1", x.get(2, 1, 1, 0), 6);
        due("DEPTH 2", x.get(2, 2, 1, 0), 7);
        due("place 0", x.get(2, 2, 0, 0), 8);
        dueFault("a place with nothing", x, x.size(2, 2, 2), NULL);
        x.set(2, 0, 0, 0, 15);
        x.set(2, 1, 1, 0, 16);
        x.set(2, 2, 1, 0, 17);
        x.inner(2, 2, 2, 1);
        due("ROWS of their own: DEPTH 0", x.get(0, 0, 0, 0), 5);
        due("ROWS of their own: DEPTH 1", x.get(0, 1, 1, 0), 6);
        due("ROWS of their own: DEPTH 2", x.get(0, 2, 1, 0), 7);
        dueFault("places of their own", x, x.size(0, 2, 2), NULL);
        due("a twin of what has nothing", x.twin(1), 3);
        dueFault("nothing", x, x.size(3, 1, NONE), NULL);
        MemberScanner y = new MemberScanner();
        y.cls(PLAIN, NONE);
        y.member(0, FIELD, 0, THINGS, 0, KEY);
        y.make(0);
        y.link(0, 0, 0, 0, 0);
        y.member(0, GETTER, 0, INTS, 0, 0);
        due("a RULE is against its CLASS now", y.twin(0), 1);
        due("the same OBJECT, not its twin", y.get(1, 0, 0, 0), 0);
        due("MARKS", y.kind(1, 0, 3), KEY);
        while (y.told(1) < 60) {
            y.twin(0);
        }
        due("the 61st", y.twin(0), FULL);
        due("the 61st of none", y.twin(60), UNKNOWN);
    }

    private static void dueAlike(MemberScanner x, int want) {
        due("alike(0, 1)", x.alike(0, 1), want);
        due("alike(1, 0)", x.alike(1, 0), want);
    }

    private static void promise31Alike() {
        promise = 31;
        MemberScanner x = depths(DOUBLES);
        due("itself", x.alike(0, 0), 1);
        dueAlike(x, 1);
        x.set(0, 0, 0, 0, bits(-0.0));
        dueAlike(x, 0);
        x.set(0, 0, 0, 0, NAN);
        x.set(1, 0, 0, 0, 0xfff8000000000123L);
        dueAlike(x, 1);
        x.row(0, 1, 0);
        dueAlike(x, 0);
        x.row(1, 1, 1);
        dueAlike(x, 0);
        x.row(0, 1, 1);
        dueAlike(x, 1);
        x.row(0, 2, 0);
        dueAlike(x, 0);
        x.row(0, 2, 2);
        x.row(1, 2, 2);
        dueAlike(x, 1);
        x.inner(0, 2, 1, 0);
        dueAlike(x, 0);
        x.inner(1, 2, 1, 1);
        dueAlike(x, 0);
        x.inner(0, 2, 1, 1);
        dueAlike(x, 1);
        x.set(0, 2, 1, 0, bits(1));
        dueAlike(x, 0);
        due("no OBJECT", x.alike(0, 2), UNKNOWN);
        due("no OBJECT", x.alike(-1, 0), UNKNOWN);
        MemberScanner y = new MemberScanner();
        y.cls(PLAIN, NONE);
        y.cls(PLAIN, 0);
        y.cls(GUISE, NONE);
        y.make(0);
        y.make(1);
        due("of two CLASSES", y.alike(0, 1), 0);
        y.member(0, FIELD, 1, THINGS, 0, 0);
        y.make(0);
        due("with a SLOT more", y.alike(0, 2), 0);
        y.make(0);
        y.link(2, 0, 0, 0, 3);
        y.link(3, 0, 0, 0, 2);
        due("THINGS by numbers", y.alike(2, 3), 0);
        y.link(3, 0, 0, 0, 3);
        due("the same OBJECT", y.alike(2, 3), 1);
        y.face(0, 2);
        y.member(2, GETTER, 1, THINGS, 0, KEY);
        y.make(0);
        y.link(4, 0, 0, 0, 3);
        due("MARKS do not count", y.alike(2, 4), 1);
    }

    private static void promise32Find() {
        promise = 32;
        MemberScanner x = new MemberScanner();
        x.cls(ABSTRACT, NONE);
        x.cls(PLAIN, 0);
        x.cls(RECORD, NONE);
        x.cls(GUISE, NONE);
        x.cls(GUISE, NONE);
        x.face(2, 3);
        x.member(0, FIELD, 1, INTS, 0, KEY);
        x.member(0, FIELD, 2, INTS, 0, 0);
        x.member(3, GETTER, 4, DOUBLES, 0, KEY);
        x.make(1);
        x.make(1);
        x.make(1);
        x.make(2);
        x.set(1, 0, 0, 0, 7);
        x.set(2, 0, 0, 0, 7);
        x.set(0, 1, 0, 0, 7);
        x.set(3, 0, 0, 0, bits(2.5));
        due("the least", x.find(0, 7), 1);
        due("below itself", x.find(1, 7), 1);
        due("at first 0", x.find(0, 0), 0);
        due("another CLASS", x.find(2, 7), NONE);
        due("by BITS", x.find(2, bits(2.5)), 3);
        due("below a GUISE", x.find(3, bits(2.5)), 3);
        due("below a GUISE that no one has", x.find(4, bits(2.5)), NONE);
        x.face(3, 4);
        due("that it has now", x.find(4, bits(2.5)), 3);
        x.set(3, 0, 0, 0, NAN);
        due("not a number", x.find(3, NAN), 3);
        due("not a number, as it is not told", x.find(3, NAN + 1), NONE);
        due("no CLASS", x.find(5, 7), UNKNOWN);
        due("CLASS NONE", x.find(NONE, 7), UNKNOWN);
        MemberScanner y = new MemberScanner();
        y.cls(PLAIN, NONE);
        y.cls(PLAIN, NONE);
        y.member(0, FIELD, 1, THINGS, 0, KEY);
        y.member(1, FIELD, 1, INTS, 1, KEY);
        y.make(0);
        y.make(1);
        y.row(1, 0, 1);
        due("a KEY of THINGS", y.find(0, NONE), NONE);
        y.link(0, 0, 0, 0, 0);
        due("a KEY of THINGS", y.find(0, 0), NONE);
        due("a KEY of DEPTH 1", y.find(1, 0), NONE);
    }

    private static void promise33Column() {
        promise = 33;
        MemberScanner x = new MemberScanner();
        x.cls(PLAIN, NONE);
        x.cls(PLAIN, 0);
        x.cls(RECORD, NONE);
        x.cls(GUISE, NONE);
        x.cls(PLAIN, NONE);
        x.cls(PLAIN, NONE);
        x.face(2, 3);
        x.face(0, 3);
        x.member(0, FIELD, 1, BYTES, 0, 0);
        x.member(2, COMPONENT, 1, INTS, 0, 0);
        x.member(4, FIELD, 1, THINGS, 0, 0);
        x.member(5, FIELD, 1, BYTES, 1, 0);
        x.face(4, 3);
        x.face(5, 3);
        for (int c : new int[] {2, 1, 0, 4, 5}) {
            x.make(c);
        }
        x.set(0, 0, 0, 0, 1000);
        x.set(1, 0, 0, 0, -2);
        x.set(2, 0, 0, 0, 3);
        x.trial(STORE, 0);
        due("below a GUISE, without THINGS and DEPTH 1", x.column(3, 1, LONGS), 3);
        due("fault()", x.fault(), 0);
        due("told(5)", x.told(5), 3);
        int[] due = {1000, -2, 3};
        for (int i = 0; i < 3; i++) {
            due("CELL " + i, x.cell(i), due[i]);
        }
        dueFault("an INT is not WIDENED to a SHORT", x, x.column(3, 1, SHORTS), KIND);
        due("THE COLUMN stays", x.told(5), 3);
        due("and its CELLS", x.cell(0), 1000);
        due("of the BYTES alone", x.column(0, 1, SHORTS), 2);
        due("CELL 0", x.cell(0), -2);
        dueFault("to TRUTHS", x, x.column(0, 1, TRUTHS), KIND);
        due("no one has that NAME", x.column(0, 2, TRUTHS), 0);
        due("told(5)", x.told(5), 0);
        due("to DOUBLES", x.column(2, 1, DOUBLES), 1);
        due("CELL 0", x.cell(0), bits(1000));
        due("a CLASS of THINGS alone", x.column(4, 1, BYTES), 0);
        x.trial(STORE, 0);
        dueRefused("no CLASS", x, x.column(6, 31, 8), UNKNOWN);
        dueRefused("name 31", x, x.column(0, 31, 0), OUTSIDE);
        dueRefused("name -1", x, x.column(0, -1, 0), OUTSIDE);
        dueRefused("lane 8", x, x.column(0, 1, 8), OUTSIDE);
        dueRefused("lane -1", x, x.column(0, 1, -1), OUTSIDE);
        due("THE COLUMN is as it was", x.told(5), 0);
    }

    private static void promise34Cell() {
        promise = 34;
        MemberScanner x = lanes(2);
        x.trial(STORE, 0);
        dueRefused("there was none", x, x.cell(0), 0);
        dueRefused("there was none", x, x.cell(-1), 0);
        x.column(0, BYTES, CHARS);
        dueRefused("a COLUMN that came to a FAULT is none", x, x.cell(5), 0);
        x.column(0, 20, INTS);
        dueZero("a COLUMN of none", x, x.cell(0), INDEX);
        x.set(0, FLOATS, 0, 0, bits(0.1));
        x.set(1, FLOATS, 0, 0, bits(-3));
        x.column(0, FLOATS, FLOATS);
        due("a FLOAT", x.cell(0), bits(0.1f));
        due("fault()", x.fault(), 0);
        due("the last", x.cell(1), bits(-3));
        dueZero("behind the last", x, x.cell(2), INDEX);
        dueZero("-1", x, x.cell(-1), INDEX);
        dueZero("NONE", x, x.cell(NONE), INDEX);
        x.set(0, FLOATS, 0, 0, bits(9));
        due("THE COLUMN is as it was gathered", x.cell(0), bits(0.1f));
        x.set(0, TRUTHS, 0, 0, 9);
        x.column(0, TRUTHS, TRUTHS);
        due("a TRUTH", x.cell(0), 1);
        x.set(0, CHARS, 0, 0, -1);
        x.column(0, CHARS, CHARS);
        due("a CHAR", x.cell(0), 65535);
    }

    private static void dueFolds(MemberScanner x, double... due) {
        for (int what = 0; what < due.length; what++) {
            due("fold(" + what + ")", x.fold(what), bits(due[what]));
        }
    }

    private static void promise35Fold() {
        promise = 35;
        MemberScanner x = lanes(5);
        x.trial(STORE, 0);
        dueFolds(x, 0, Double.NaN, Double.NaN, 0, 0);
        due("fold(5)", x.fold(5), NAN);
        due("fold(-1)", x.fold(-1), NAN);
        due("it names no FAULT", x.fault(), STORE);
        double[] cells = {2.5, Double.NaN, -0.5, Double.POSITIVE_INFINITY, 1.75};
        for (int o = 0; o < 5; o++) {
            x.set(o, DOUBLES, 0, 0, bits(cells[o]));
        }
        x.column(0, DOUBLES, DOUBLES);
        dueFolds(x, 3, -0.5, 2.5, 3.75, 4);
        double[] zeros = {0.0, -0.0, -0.25, -0.0, 0.0};
        for (int o = 0; o < 5; o++) {
            x.set(o, DOUBLES, 0, 0, bits(o == 2 ? -0.0 : zeros[o]));
        }
        x.column(0, DOUBLES, DOUBLES);
        dueFolds(x, 5, -0.0, 0.0, 0.0, 0.0);
        for (int o = 0; o < 5; o++) {
            x.set(o, DOUBLES, 0, 0, bits(-0.0));
        }
        x.column(0, DOUBLES, DOUBLES);
        dueFolds(x, 5, -0.0, -0.0, 0.0, 0.0);
        double[] large = {Double.MAX_VALUE, Double.MAX_VALUE, -Double.MAX_VALUE, -Double.MAX_VALUE, 1};
        for (int o = 0; o < 5; o++) {
            x.set(o, DOUBLES, 0, 0, bits(large[o]));
        }
        x.column(0, DOUBLES, DOUBLES);
        dueFolds(x, 5, -Double.MAX_VALUE, Double.MAX_VALUE, Double.POSITIVE_INFINITY, Double.POSITIVE_INFINITY);
        double[] order = {1e16, 1, 1, -1e16, 0.1};
        double sum = 0;
        for (int o = 0; o < 5; o++) {
            x.set(o, DOUBLES, 0, 0, bits(order[o]));
            sum += order[o];
        }
        x.column(0, DOUBLES, DOUBLES);
        due("the sum is made in order", x.fold(3), bits(sum));
        x.set(1, TRUTHS, 0, 0, 1);
        x.set(3, TRUTHS, 0, 0, 1);
        x.column(0, TRUTHS, TRUTHS);
        dueFolds(x, 5, 0, 1, 2, 2);
        for (int o = 0; o < 5; o++) {
            x.set(o, LONGS, 0, 0, o == 0 ? Long.MIN_VALUE : o);
        }
        x.column(0, LONGS, LONGS);
        dueFolds(x, 5, -9.223372036854775808E18, 4);
        x.column(0, LONGS, FLOATS);
        dueFolds(x, 5, -9.223372036854775808E18, 4);
        x.set(0, CHARS, 0, 0, 65535);
        x.column(0, CHARS, CHARS);
        dueFolds(x, 5, 0, 65535, 65535, 65535);
        for (int o = 0; o < 5; o++) {
            x.set(o, DOUBLES, 0, 0, NAN);
        }
        x.column(0, DOUBLES, DOUBLES);
        dueFolds(x, 0, Double.NaN, Double.NaN, 0, 0);
    }

    private static void promise36At() {
        promise = 36;
        for (int lane : new int[] {FLOATS, DOUBLES}) {
            MemberScanner x = depths(lane);
            x.trial(STORE, 0);
            dueRefused("no OBJECT", x, x.at(2, 1, 0), NAN);
            dueRefused("no SLOT", x, x.at(0, 3, 0), NAN);
            dueRefused("x is not a number", x, x.at(0, 1, NAN), NAN);
            dueRefused("x is endless", x, x.at(0, 1, bits(Double.NEGATIVE_INFINITY)), NAN);
            dueRefused("DEPTH 0", x, x.at(0, 0, 0), NAN);
            dueRefused("DEPTH 2", x, x.at(0, 2, 0), NAN);
            due("nothing", x.at(0, 1, 0), NAN);
            due("fault()", x.fault(), NULL);
            x.row(0, 1, 0);
            due("no CELL", x.at(0, 1, 0), NAN);
            due("fault()", x.fault(), ZERO);
            int faults = x.told(4);
            x.at(0, 1, 0);
            due("FAULTS are counted", x.told(4), faults + 1);
            x.row(0, 1, 3);
            double[] cells = {1, 4, -2};
            for (int i = 0; i < 3; i++) {
                x.set(0, 1, i, 0, bits(cells[i]));
            }
            double[][] due = {{0, 1}, {1, 4}, {2, -2}, {3, 1}, {-1, -2}, {-3, 1}, {0.5, 2.5}, {1.25, 2.5}, {2.5, -0.5}, {-0.5, -0.5},
                {-0.75, -1.25}, {300.5, 2.5}, {-0.0, 1}, {1e300, cells[(int) (Long.MAX_VALUE % 3)]}, {-1e300, cells[Math.floorMod(Long.MIN_VALUE, 3)]},
                {9007199254740993.0, cells[(int) (9007199254740992L % 3)]}, {-1e-300, 1}};
            for (double[] pair : due) {
                due("at " + pair[0], x.at(0, 1, bits(pair[0])), bits(pair[1]));
                due("fault()", x.fault(), 0);
            }
            x.set(0, 1, 1, 0, bits(Double.POSITIVE_INFINITY));
            due("a is endless", x.at(0, 1, bits(1)), NAN);
            due("b is endless", x.at(0, 1, bits(0.5)), NAN);
            due("fault()", x.fault(), 0);
            due("b is not wanted", x.at(0, 1, bits(0)), bits(1));
            due("neither is wanted", x.at(0, 1, bits(2.5)), bits(-0.5));
            x.set(0, 1, 1, 0, NAN);
            due("a is not a number", x.at(0, 1, bits(1.5)), NAN);
            due("b is not a number", x.at(0, 1, bits(0.5)), NAN);
            x.row(0, 1, 1);
            x.set(0, 1, 0, 0, bits(-0.0));
            due("one CELL", x.at(0, 1, bits(7)), bits(-0.0));
            due("one CELL, between it and itself", x.at(0, 1, bits(7.5)), bits(0.0));
        }
        MemberScanner x = depths(DOUBLES);
        x.row(0, 1, 2);
        x.set(0, 1, 0, 0, bits(-Double.MAX_VALUE));
        x.set(0, 1, 1, 0, bits(Double.MAX_VALUE));
        due("b - a is endless", x.at(0, 1, bits(0.5)), bits(Double.POSITIVE_INFINITY));
        x.set(0, 1, 0, 0, bits(0.1));
        x.set(0, 1, 1, 0, bits(0.7));
        due("as the formula has it", x.at(0, 1, bits(0.3)), bits(0.1 + (0.7 - 0.1) * 0.3));
        MemberScanner y = depths(FLOATS);
        y.row(0, 1, 2);
        y.set(0, 1, 0, 0, bits(0.1f));
        y.set(0, 1, 1, 0, bits(0.7f));
        due("FLOATS count as doubles", y.at(0, 1, bits(0.3)), bits((double) 0.1f + ((double) 0.7f - (double) 0.1f) * 0.3));
        MemberScanner z = depths(LONGS);
        z.row(0, 1, 1);
        z.trial(STORE, 0);
        dueRefused("LONGS", z, z.at(0, 1, 0), NAN);
    }

    private static void promise37List() {
        promise = 37;
        MemberScanner x = new MemberScanner();
        x.cls(PLAIN, NONE);
        x.trial(STORE, 0);
        dueRefused("LIST 4", x, x.list(4, 9, 9), UNKNOWN);
        dueRefused("LIST -1", x, x.list(-1, 0, 1), UNKNOWN);
        dueRefused("takes 3", x, x.list(0, 3, -1), OUTSIDE);
        dueRefused("takes -1", x, x.list(0, -1, 1), OUTSIDE);
        dueRefused("9 places", x, x.list(0, 0, 9), OUTSIDE);
        dueFault("-1 places", x, x.list(0, 0, -1), SIZE);
        dueFault("still no LIST", x, x.board(0, 0), NULL);
        for (int k = 0; k < 4; k++) {
            due("list(" + k + ")", x.list(k, k % 3, 8), 1);
            due("fault()", x.fault(), 0);
            due("nothing in it", x.board(k, 7), NONE);
            dueFault("place 8", x, x.board(k, 8), INDEX);
        }
        x.stand(0, 3, 0);
        dueFault("-5 places", x, x.list(0, 0, -5), SIZE);
        due("a FAULT changed nothing", x.board(0, 3), 0);
        due("a new one", x.list(0, 0, 4), 1);
        due("with nothing in it", x.board(0, 3), NONE);
        due("of no place", x.list(0, 0, 0), 1);
        dueFault("place 0", x, x.board(0, 0), INDEX);
    }

    private static void promise38Stand() {
        promise = 38;
        MemberScanner x = new MemberScanner();
        for (int form = 0; form <= 4; form++) {
            x.cls(form, NONE);
        }
        x.cls(BODY, CHOICES);
        x.trial(SIZE, 0);
        dueRefused("LIST 4", x, x.stand(4, 0, 0), UNKNOWN);
        dueRefused("no CLASS", x, x.stand(0, 0, 6), UNKNOWN);
        dueRefused("CLASS -1", x, x.stand(0, 0, -1), UNKNOWN);
        dueFault("there is no LIST yet", x, x.stand(0, 9, 0), NULL);
        dueFault("there is no LIST yet, nothing", x, x.stand(0, 9, NONE), NULL);
        String[] takes = {"012345", "03", "45"};
        for (int k = 0; k < 3; k++) {
            x.list(k, k, 2);
            for (int c = 0; c <= 5; c++) {
                dueFault("INDEX goes before STORE", x, x.stand(k, 2, c), INDEX);
                dueFault("place -1", x, x.stand(k, -1, c), INDEX);
                due("nothing", x.stand(k, 1, NONE), 1);
                due("fault()", x.fault(), 0);
                if (takes[k].indexOf('0' + c) >= 0) {
                    due("LIST " + k + " takes " + c, x.stand(k, 1, c), 1);
                    due("it is there", x.board(k, 1), c);
                } else {
                    dueFault("LIST " + k + " takes " + c, x, x.stand(k, 1, c), STORE);
                    due("it is not there", x.board(k, 1), NONE);
                }
            }
            due("the other place has nothing", x.board(k, 0), NONE);
        }
    }

    private static void promise39Board() {
        promise = 39;
        MemberScanner x = new MemberScanner();
        x.cls(PLAIN, NONE);
        x.cls(PLAIN, NONE);
        x.trial(SIZE, 0);
        dueRefused("LIST 4", x, x.board(4, 0), UNKNOWN);
        dueRefused("LIST -1", x, x.board(-1, 0), UNKNOWN);
        dueFault("there is no LIST yet", x, x.board(3, -1), NULL);
        x.list(3, 0, 2);
        x.stand(3, 1, 1);
        due("a CLASS", x.board(3, 1), 1);
        due("fault()", x.fault(), 0);
        due("nothing", x.board(3, 0), NONE);
        x.stand(3, 1, NONE);
        due("nothing again", x.board(3, 1), NONE);
        dueFault("place 2", x, x.board(3, 2), INDEX);
        dueFault("place -1", x, x.board(3, -1), INDEX);
        dueFault("place NONE", x, x.board(3, NONE), INDEX);
    }

    private static void promise40Trial() {
        promise = 40;
        MemberScanner x = new MemberScanner();
        for (int fault = 1; fault <= 7; fault++) {
            for (int way = 0; way <= 15; way++) {
                dueFault("trial(" + fault + ", " + way + ")", x, x.trial(fault, way), fault);
            }
        }
        due("all are counted", x.told(4), 7 * 16);
        dueRefused("fault 0", x, x.trial(0, 0), OUTSIDE);
        dueRefused("fault 8", x, x.trial(8, 0), OUTSIDE);
        dueRefused("way 16", x, x.trial(1, 16), OUTSIDE);
        dueRefused("way -1", x, x.trial(1, -1), OUTSIDE);
    }

    private static void promise41Fault() {
        promise = 41;
        MemberScanner x = depths(INTS);
        x.trial(ZERO, 1);
        due("fault()", x.fault(), ZERO);
        due("again", x.fault(), ZERO);
        x.cls(PLAIN, NONE);
        x.face(0, 0);
        x.variable(0, 1);
        x.member(0, 1, 12, 1, 0, 0);
        x.says(0, 0);
        x.way(0, 0);
        x.below(0, 0);
        x.scan(0);
        x.broken(0);
        x.entry(0, 0);
        x.hold(0, 1, 1);
        x.make(0);
        x.of(0, 0);
        x.slot(0, 0);
        x.kind(0, 0, 0);
        x.drop(0, 1);
        x.twin(0);
        x.alike(0, 0);
        x.find(0, 0);
        x.fold(0);
        x.told(4);
        due("calls that name no FAULT leave it", x.fault(), ZERO);
        for (int call = 0; call < 19; call++) {
            x.trial(ZERO, 1);
            callThatNamesOne(x, call);
            due("call " + call + " names FAULTS", x.fault(), 0);
        }
    }

    /** Each call that names FAULTS, with numbers that come to none. */
    private static void callThatNamesOne(MemberScanner x, int call) {
        switch (call) {
            case 0: x.tally(0, 0, 1); break;
            case 1: x.offer(0); break;
            case 2: x.row(0, 1, 2); break;
            case 3: x.row(0, 2, 2); break;
            case 4: x.inner(0, 2, 0, 2); break;
            case 5: x.size(0, 1, NONE); break;
            case 6: x.get(0, 1, 0, 0); break;
            case 7: x.set(0, 1, 0, 0, 1); break;
            case 8: x.link(0, 1, 0, 0, 1); break;
            case 9: x.as(0, 1, 0, INTS); break;
            case 10: x.wide(0, 1, 0, INTS); break;
            case 11: x.copy(0, 1, 0, 0, 1, 0, 1); break;
            case 12: x.follow(0, 0, 0); break;
            case 13: x.column(0, 0, INTS); break;
            case 14: x.cell(0); break;
            case 15: x.at(0, 1, 0); break;
            case 16: x.list(0, 0, 1); break;
            case 17: x.stand(0, 0, 0); break;
            default: x.board(0, 0); break;
        }
    }

    private static void promise42Told() {
        promise = 42;
        MemberScanner x = depths(INTS);
        x.cls(ABSTRACT, NONE);
        x.cls(PLAIN, 1);
        due("CLASSES", x.told(0), 3);
        due("OBJECTS", x.told(1), 2);
        due("ENTRIES", x.told(2), 0);
        x.scan(0);
        due("ENTRIES", x.told(2), 3);
        due("STARTED", x.told(3), 1);
        x.make(2);
        x.make(2);
        due("STARTED", x.told(3), 3);
        due("FAULTS", x.told(4), 1);
        x.trial(0, 0);
        x.get(0, 0, 9, 0);
        x.set(0, 0, 9, 0, 1);
        x.cell(9);
        due("FAULTS", x.told(4), 3);
        due("CELLS of THE COLUMN", x.told(5), 0);
        x.column(0, 0, INTS);
        due("CELLS of THE COLUMN", x.told(5), 2);
        due("told(6)", x.told(6), OUTSIDE);
        due("told(-1)", x.told(-1), OUTSIDE);
    }
}
