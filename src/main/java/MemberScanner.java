import java.util.Arrays;

/**
 * Classes asked for what they have, and objects read by it, as the document's promises tell.
 * Every number is tested before it is used, so a FAULT is what a test comes to, never what the machine throws.
 */
public final class MemberScanner {
    public static final int UNKNOWN = -1, OUTSIDE = -2, STATE = -3, FULL = -4, NONE = -9;

    private static final int PLAIN = 0, ABSTRACT = 1, GUISE = 2, RECORD = 3, CHOICES = 4, BODY = 5;
    private static final int FIELD = 0, COMPONENT = 2;
    private static final int BYTES = 0, SHORTS = 1, CHARS = 2, INTS = 3, FLOATS = 5, DOUBLES = 6, TRUTHS = 7, THINGS = 8;
    private static final int FIRST_VARIABLE = 9;
    private static final int HIDDEN = 1, STATIC = 2, KEY = 4, ALL_MARKS = 7;
    private static final int NULL = 1, CAST = 2, INDEX = 3, STORE = 4, SIZE = 5, ZERO = 6, KIND = 7;
    private static final int STATIC_KEY = 1, CLASH = 2, SECOND_KEY = 3;

    private static final int MOST_CLASSES = 40, MOST_ABOVE = 7, MOST_GUISES = 3, MOST_VARIABLES = 2, MOST_MEMBERS = 12;
    private static final int SORTS = 3, NAMES = 31, LAST_LANE = 10, LAST_DEPTH = 2, MOST_HOLDS = 20;
    private static final int MOST_OBJECTS = 60, MOST_SLOTS = 16, MOST_CELLS = 30, MOST_STEPS = 20;
    private static final int LISTS = 4, MOST_PLACES = 8, LAST_TAKES = 2, LAST_TRIAL_WAY = 15;

    private final Types types = new Types();
    private final Table scanned = new Table();
    // make() reads a TABLE too, and what was SCANNED has to stay.
    private final Table draft = new Table();
    private final Thing[] things = new Thing[MOST_OBJECTS];
    private int thingCount;
    private Column latestColumn = new Column();
    // A COLUMN is gathered here first, because the latest one stays if a CELL is not WIDENED.
    private Column nextColumn = new Column();
    private final Roster[] rosters = new Roster[LISTS];
    private int latestFault;
    private int faultsEver;

    public MemberScanner() {
    }

    // ---- 1 classes

    public int cls(int form, int parent) {
        Type above = types.typeOf(parent);
        if (above == null && parent != NONE) {
            return UNKNOWN;
        }
        if (form < PLAIN || form > BODY) {
            return OUTSIDE;
        }
        if (!mayBeParent(form, above)) {
            return STATE;
        }
        int level = above == null ? 0 : above.level + 1;
        if (types.count >= MOST_CLASSES || level > MOST_ABOVE) {
            return FULL;
        }
        return types.add(new Type(form, parent, level));
    }

    public int face(int c, int of) {
        Type type = types.typeOf(c);
        Type guise = types.typeOf(of);
        if (type == null || guise == null) {
            return UNKNOWN;
        }
        if (guise.form != GUISE || types.isBelow(of, c) || type.hasGuise(of)) {
            return STATE;
        }
        if (type.guiseCount >= MOST_GUISES) {
            return FULL;
        }
        type.guises[type.guiseCount] = of;
        type.guiseCount++;
        return type.guiseCount;
    }

    public int variable(int c, int lane) {
        Type type = types.typeOf(c);
        if (type == null) {
            return UNKNOWN;
        }
        if (!isNumberLane(lane)) {
            return OUTSIDE;
        }
        if (type.boundCount >= MOST_VARIABLES) {
            return FULL;
        }
        type.bounds[type.boundCount] = lane;
        type.boundCount++;
        return type.boundCount - 1;
    }

    public int member(int c, int sort, int name, int lane, int depth, int marks) {
        Type type = types.typeOf(c);
        if (type == null) {
            return UNKNOWN;
        }
        if (sort < 0 || sort >= SORTS || !isName(name) || lane < 0 || lane > LAST_LANE) {
            return OUTSIDE;
        }
        if (depth < 0 || depth > LAST_DEPTH || marks < 0 || marks > ALL_MARKS) {
            return OUTSIDE;
        }
        int itsLane = type.laneMeant(lane);
        if (!type.mayHave(sort, marks) || itsLane == NONE || type.hasMember(sort, name)) {
            return STATE;
        }
        if (type.memberCount >= MOST_MEMBERS) {
            return FULL;
        }
        type.members[type.memberCount] = new Member(sort, name, itsLane, depth, marks);
        type.memberCount++;
        return type.memberCount - 1;
    }

    public int says(int c, int what) {
        Type type = types.typeOf(c);
        if (type == null) {
            return UNKNOWN;
        }
        switch (what) {
            case 0: return type.form;
            case 1: return type.parent;
            case 2: return type.guiseCount;
            case 3: return type.boundCount;
            case 4: return type.memberCount;
            case 5: return types.wayLengthOf(c);
            case 6: return type.started ? 1 : 0;
            case 7: return type.cost();
            // hold() lets go of a CLASS before it answers, so no call ever finds one HELD.
            case 8: return 0;
            default: return OUTSIDE;
        }
    }

    public int way(int c, int i) {
        if (types.typeOf(c) == null) {
            return UNKNOWN;
        }
        int length = types.wayLengthOf(c);
        return i >= 0 && i < length ? types.way[i] : NONE;
    }

    public int below(int c, int d) {
        if (types.typeOf(c) == null || types.typeOf(d) == null) {
            return UNKNOWN;
        }
        return types.isBelow(c, d) ? 1 : 0;
    }

    public int scan(int c) {
        if (types.typeOf(c) == null) {
            return UNKNOWN;
        }
        scanned.read(types, c);
        return scanned.rule == 0 ? scanned.count : -20 - scanned.rule;
    }

    public int broken(int what) {
        switch (what) {
            case 0: return scanned.rule;
            case 1: return scanned.ruleName;
            case 2: return scanned.ruleClass;
            case 3: return scanned.ruleOther;
            default: return OUTSIDE;
        }
    }

    public int entry(int i, int what) {
        Entry entry = scanned.entryAt(i);
        if (entry == null) {
            return UNKNOWN;
        }
        switch (what) {
            case 0: return entry.name;
            case 1: return entry.owner;
            case 2: return entry.sort;
            case 3: return entry.lane;
            case 4: return entry.depth;
            case 5: return entry.marks;
            case 6: return entry.ownCount;
            default: return OUTSIDE;
        }
    }

    public int tally(int c, int as, int v) {
        latestFault = 0;
        Type type = types.typeOf(c);
        if (type == null) {
            return UNKNOWN;
        }
        if (as < 0 || as >= type.tallies.length) {
            return OUTSIDE;
        }
        if (as == 1 && !type.isPlainOrRecord() || as == 2 && type.form != RECORD) {
            return comeTo(CAST);
        }
        type.tallies[as] += v;
        return type.tallies[as];
    }

    public int offer(int c) {
        latestFault = 0;
        Type type = types.typeOf(c);
        if (type == null) {
            return UNKNOWN;
        }
        if (!type.isPlainOrRecord()) {
            return comeTo(CAST);
        }
        return type.form == RECORD ? 2 * type.cost() : type.cost() + type.memberCount;
    }

    public int hold(int c, int n, int v) {
        Type type = types.typeOf(c);
        if (type == null) {
            return UNKNOWN;
        }
        if (n < 1 || n > MOST_HOLDS) {
            return OUTSIDE;
        }
        type.tallies[0] += n * v;
        return type.tallies[0];
    }

    // ---- 2 objects

    public int make(int c) {
        Type type = types.typeOf(c);
        if (type == null) {
            return UNKNOWN;
        }
        if (!type.isPlainOrRecord()) {
            return STATE;
        }
        draft.read(types, c);
        if (draft.rule != 0) {
            return STATE;
        }
        if (thingCount >= MOST_OBJECTS || draft.count > MOST_SLOTS) {
            return FULL;
        }
        types.start(c);
        return addThing(new Thing(c, draft));
    }

    public int of(int o, int what) {
        Thing thing = thingOf(o);
        if (thing == null) {
            return UNKNOWN;
        }
        switch (what) {
            case 0: return thing.type;
            case 1: return thing.slots.length;
            default: return OUTSIDE;
        }
    }

    public int slot(int o, int name) {
        Thing thing = thingOf(o);
        return thing == null ? UNKNOWN : thing.slotNumber(name);
    }

    public int kind(int o, int s, int what) {
        Slot slot = slotOf(o, s);
        if (slot == null) {
            return UNKNOWN;
        }
        switch (what) {
            case 0: return slot.name;
            case 1: return slot.lane;
            case 2: return slot.depth;
            case 3: return slot.marks;
            default: return OUTSIDE;
        }
    }

    public int row(int o, int s, int n) {
        latestFault = 0;
        Slot slot = slotOf(o, s);
        if (slot == null) {
            return UNKNOWN;
        }
        if (n > MOST_CELLS) {
            return OUTSIDE;
        }
        if (slot.depth == 0) {
            return STATE;
        }
        if (n < 0) {
            return comeTo(SIZE);
        }
        slot.fillAnew(n);
        return 1;
    }

    public int inner(int o, int s, int i, int n) {
        latestFault = 0;
        Slot slot = slotOf(o, s);
        if (slot == null) {
            return UNKNOWN;
        }
        if (n > MOST_CELLS) {
            return OUTSIDE;
        }
        if (slot.depth != 2) {
            return STATE;
        }
        if (n < 0) {
            return comeTo(SIZE);
        }
        if (slot.places == null) {
            return comeTo(NULL);
        }
        if (i < 0 || i >= slot.places.length) {
            return comeTo(INDEX);
        }
        slot.places[i] = new Row(n, slot.lane);
        return 1;
    }

    public int drop(int o, int s) {
        Slot slot = slotOf(o, s);
        if (slot == null) {
            return UNKNOWN;
        }
        if (slot.depth == 0) {
            return STATE;
        }
        int had = slot.hasNothing() ? 0 : 1;
        slot.empty();
        return had;
    }

    public int size(int o, int s, int i) {
        latestFault = 0;
        Slot slot = slotOf(o, s);
        if (slot == null) {
            return UNKNOWN;
        }
        if (slot.hasNothing()) {
            return comeTo(NULL);
        }
        if (i == NONE) {
            return slot.length();
        }
        if (slot.depth < 2) {
            return comeTo(CAST);
        }
        if (i < 0 || i >= slot.length()) {
            return comeTo(INDEX);
        }
        Row inner = slot.rowAt(i);
        return inner == null ? comeTo(NULL) : inner.cells.length;
    }

    public long get(int o, int s, int i, int j) {
        latestFault = 0;
        Slot slot = slotOf(o, s);
        if (slot == null) {
            return 0;
        }
        int fault = slot.faultAt(i, j);
        return fault == 0 ? slot.cellAt(i, j) : zeroAfter(fault);
    }

    public int set(int o, int s, int i, int j, long v) {
        latestFault = 0;
        Slot slot = slotOf(o, s);
        if (slot == null) {
            return UNKNOWN;
        }
        if (slot.lane == THINGS) {
            return STATE;
        }
        return put(slot, i, j, Numbers.become(v, slot.lane));
    }

    public int link(int o, int s, int i, int j, int p) {
        latestFault = 0;
        Slot slot = slotOf(o, s);
        if (slot == null || p != NONE && thingOf(p) == null) {
            return UNKNOWN;
        }
        if (slot.lane != THINGS) {
            return STATE;
        }
        return put(slot, i, j, p);
    }

    public long as(int o, int s, int i, int lane) {
        latestFault = 0;
        Slot slot = slotOf(o, s);
        if (slot == null || lane < 0 || lane > THINGS) {
            return 0;
        }
        int fault = faultOfRow(slot, lane);
        if (fault == 0) {
            fault = slot.faultAt(i, 0);
        }
        return fault == 0 ? slot.cellAt(i, 0) : zeroAfter(fault);
    }

    public long wide(int o, int s, int i, int lane) {
        latestFault = 0;
        Slot slot = slotOf(o, s);
        if (slot == null || !isNumberLane(lane)) {
            return 0;
        }
        if (slot.hasNothing()) {
            return zeroAfter(NULL);
        }
        if (slot.depth == 2 || slot.lane == THINGS) {
            return zeroAfter(KIND);
        }
        int fault = slot.faultAt(i, 0);
        if (fault != 0) {
            return zeroAfter(fault);
        }
        if (!Numbers.widens(slot.lane, lane)) {
            return zeroAfter(KIND);
        }
        return Numbers.widened(slot.cellAt(i, 0), slot.lane, lane);
    }

    public int copy(int o, int s, int i, int p, int r, int k, int n) {
        latestFault = 0;
        Slot from = slotOf(o, s);
        Slot to = slotOf(p, r);
        if (from == null || to == null) {
            return UNKNOWN;
        }
        if (from.lane != to.lane || from.depth == 2 || to.depth == 2) {
            return STATE;
        }
        if (from.row == null || to.row == null) {
            return comeTo(NULL);
        }
        if (!from.row.hasRange(i, n) || !to.row.hasRange(k, n)) {
            return comeTo(INDEX);
        }
        System.arraycopy(from.row.cells, i, to.row.cells, k, n);
        return n;
    }

    public int follow(int o, int name, int d) {
        latestFault = 0;
        if (thingOf(o) == null) {
            return UNKNOWN;
        }
        if (!isName(name) || d < 0 || d > MOST_STEPS) {
            return OUTSIDE;
        }
        int here = o;
        for (int step = 0; step < d; step++) {
            int fault = faultOfStep(thingOf(here), name);
            if (fault != 0) {
                return comeTo(fault);
            }
            here = nextFrom(thingOf(here), name);
        }
        return here;
    }

    public int twin(int o) {
        Thing thing = thingOf(o);
        if (thing == null) {
            return UNKNOWN;
        }
        return thingCount >= MOST_OBJECTS ? FULL : addThing(new Thing(thing));
    }

    public int alike(int o, int p) {
        Thing one = thingOf(o);
        Thing other = thingOf(p);
        if (one == null || other == null) {
            return UNKNOWN;
        }
        return one.isLike(other) ? 1 : 0;
    }

    public int find(int c, long key) {
        if (types.typeOf(c) == null) {
            return UNKNOWN;
        }
        for (int o = 0; o < thingCount; o++) {
            Thing thing = thingOf(o);
            if (thing != null && thing.hasKey(key) && types.isBelow(thing.type, c)) {
                return o;
            }
        }
        return NONE;
    }

    // ---- 3 columns, curves

    public int column(int c, int name, int lane) {
        latestFault = 0;
        if (types.typeOf(c) == null) {
            return UNKNOWN;
        }
        if (!isName(name) || !isNumberLane(lane)) {
            return OUTSIDE;
        }
        nextColumn.begin(lane);
        for (int o = 0; o < thingCount; o++) {
            Slot slot = columnSlot(thingOf(o), c, name);
            if (slot != null && !nextColumn.take(slot)) {
                return comeTo(KIND);
            }
        }
        Column before = latestColumn;
        latestColumn = nextColumn;
        nextColumn = before;
        return latestColumn.count;
    }

    public long cell(int i) {
        latestFault = 0;
        if (!latestColumn.begun) {
            return 0;
        }
        if (i < 0 || i >= latestColumn.count) {
            return zeroAfter(INDEX);
        }
        return latestColumn.cells[i];
    }

    public long fold(int what) {
        return latestColumn.folded(what);
    }

    public long at(int o, int s, long x) {
        latestFault = 0;
        Slot slot = slotOf(o, s);
        if (slot == null || !Numbers.isFinite(x)) {
            return Numbers.NOT_A_NUMBER;
        }
        if (slot.depth != 1 || slot.lane != FLOATS && slot.lane != DOUBLES) {
            return Numbers.NOT_A_NUMBER;
        }
        if (slot.row == null) {
            comeTo(NULL);
            return Numbers.NOT_A_NUMBER;
        }
        if (slot.row.cells.length == 0) {
            comeTo(ZERO);
            return Numbers.NOT_A_NUMBER;
        }
        return slot.row.curveAt(x);
    }

    // ---- 4 lists, trials

    public int list(int k, int takes, int n) {
        latestFault = 0;
        if (!isList(k)) {
            return UNKNOWN;
        }
        if (takes < 0 || takes > LAST_TAKES || n > MOST_PLACES) {
            return OUTSIDE;
        }
        if (n < 0) {
            return comeTo(SIZE);
        }
        rosters[k] = new Roster(takes, n);
        return 1;
    }

    public int stand(int k, int i, int c) {
        latestFault = 0;
        Type type = types.typeOf(c);
        if (!isList(k) || type == null && c != NONE) {
            return UNKNOWN;
        }
        Roster roster = rosters[k];
        if (roster == null) {
            return comeTo(NULL);
        }
        if (!roster.has(i)) {
            return comeTo(INDEX);
        }
        if (type != null && !roster.takesType(type)) {
            return comeTo(STORE);
        }
        roster.places[i] = c;
        return 1;
    }

    public int board(int k, int i) {
        latestFault = 0;
        if (!isList(k)) {
            return UNKNOWN;
        }
        Roster roster = rosters[k];
        if (roster == null) {
            return comeTo(NULL);
        }
        return roster.has(i) ? roster.places[i] : comeTo(INDEX);
    }

    public int trial(int fault, int way) {
        latestFault = 0;
        if (fault < NULL || fault > KIND || way < 0 || way > LAST_TRIAL_WAY) {
            return OUTSIDE;
        }
        return comeTo(fault);
    }

    public int fault() {
        return latestFault;
    }

    public int told(int what) {
        switch (what) {
            case 0: return types.count;
            case 1: return thingCount;
            case 2: return scanned.count;
            case 3: return types.startedCount();
            case 4: return faultsEver;
            case 5: return latestColumn.count;
            default: return OUTSIDE;
        }
    }

    // ---- what the calls share

    private static boolean isName(int name) {
        return name >= 0 && name < NAMES;
    }

    private static boolean isNumberLane(int lane) {
        return lane >= 0 && lane <= TRUTHS;
    }

    private static boolean isList(int k) {
        return k >= 0 && k < LISTS;
    }

    private static boolean mayBeParent(int form, Type parent) {
        if (form == BODY) {
            return parent != null && parent.form == CHOICES;
        }
        if (parent == null) {
            return true;
        }
        boolean isHeir = form == PLAIN || form == ABSTRACT;
        return isHeir && (parent.form == PLAIN || parent.form == ABSTRACT);
    }

    private int comeTo(int fault) {
        latestFault = fault;
        faultsEver++;
        return -10 - fault;
    }

    private long zeroAfter(int fault) {
        comeTo(fault);
        return 0;
    }

    private int addThing(Thing thing) {
        if (thingCount >= MOST_OBJECTS) {
            return FULL;
        }
        things[thingCount] = thing;
        thingCount++;
        return thingCount - 1;
    }

    private Thing thingOf(int o) {
        return o >= 0 && o < thingCount ? things[o] : null;
    }

    private Slot slotOf(int o, int s) {
        Thing thing = thingOf(o);
        return thing == null ? null : thing.slotAt(s);
    }

    private int put(Slot slot, int i, int j, long cell) {
        int fault = slot.faultAt(i, j);
        if (fault != 0) {
            return comeTo(fault);
        }
        slot.putCell(i, j, cell);
        return 1;
    }

    /** The FAULT of taking what a SLOT has as a ROW of CELLS of a LANE; nothing at all is of every LANE. */
    private static int faultOfRow(Slot slot, int lane) {
        if (slot.hasNothing()) {
            return NULL;
        }
        return slot.depth == 2 || slot.lane != lane ? CAST : 0;
    }

    /** The first FAULT on the way from an OBJECT to the next one, 0 if there is none. */
    private static int faultOfStep(Thing thing, int name) {
        Slot slot = thing == null ? null : thing.slotNamed(name);
        if (slot == null) {
            return KIND;
        }
        int fault = faultOfRow(slot, THINGS);
        if (fault == 0) {
            fault = slot.faultAt(0, 0);
        }
        if (fault != 0) {
            return fault;
        }
        return slot.cellAt(0, 0) == NONE ? NULL : 0;
    }

    private static int nextFrom(Thing thing, int name) {
        Slot slot = thing == null ? null : thing.slotNamed(name);
        return slot == null ? NONE : (int) slot.cellAt(0, 0);
    }

    /** The SLOT whose CELL an OBJECT gives to a COLUMN, or null. */
    private Slot columnSlot(Thing thing, int c, int name) {
        Slot slot = thing == null ? null : thing.slotNamed(name);
        if (slot == null || slot.depth != 0 || slot.lane == THINGS) {
            return null;
        }
        return types.isBelow(thing.type, c) ? slot : null;
    }

    private static final class Member {
        final int sort;
        final int name;
        final int lane;
        final int depth;
        final int marks;

        Member(int sort, int name, int lane, int depth, int marks) {
            this.sort = sort;
            this.name = name;
            this.lane = lane;
            this.depth = depth;
            this.marks = marks;
        }

        boolean isMarked(int wanted) {
            return (marks & wanted) == wanted;
        }
    }

    /** A CLASS. */
    private static final class Type {
        private static final int COST_OF_ALL = 5, COST_OF_GUISE = 7, COST_OF_PLAIN = 10;

        final int form;
        final int parent;
        /** How many CLASSES are above it. */
        final int level;
        final int[] guises = new int[MOST_GUISES];
        int guiseCount;
        final int[] bounds = new int[MOST_VARIABLES];
        int boundCount;
        final Member[] members = new Member[MOST_MEMBERS];
        int memberCount;
        /** As a CLASS, as a PLAIN one, as a RECORD. */
        final int[] tallies = new int[3];
        boolean started;

        Type(int form, int parent, int level) {
            this.form = form;
            this.parent = parent;
            this.level = level;
        }

        boolean isPlainOrRecord() {
            return form == PLAIN || form == RECORD;
        }

        int cost() {
            switch (form) {
                case PLAIN: return COST_OF_PLAIN;
                case GUISE: return COST_OF_GUISE;
                case RECORD: return COST_OF_PLAIN + 2;
                case BODY: return COST_OF_ALL + 1;
                default: return COST_OF_ALL;
            }
        }

        boolean hasGuise(int guise) {
            for (int i = 0; i < guiseCount; i++) {
                if (guises[i] == guise) {
                    return true;
                }
            }
            return false;
        }

        boolean hasMember(int sort, int name) {
            for (int i = 0; i < memberCount; i++) {
                if (members[i].sort == sort && members[i].name == name) {
                    return true;
                }
            }
            return false;
        }

        boolean mayHave(int sort, int marks) {
            if (sort == FIELD && form == GUISE) {
                return (marks & STATIC) != 0;
            }
            return sort != COMPONENT || form == RECORD;
        }

        /** The LANE itself, the bound's of a VARIABLE, or NONE if there is no such VARIABLE. */
        int laneMeant(int lane) {
            if (lane < FIRST_VARIABLE) {
                return lane;
            }
            int v = lane - FIRST_VARIABLE;
            return v < boundCount ? bounds[v] : NONE;
        }
    }

    /** All CLASSES, and the WAY of the one that was asked last. */
    private static final class Types {
        private final Type[] all = new Type[MOST_CLASSES];
        int count;
        final int[] way = new int[MOST_CLASSES];
        private int wayLength;
        private final boolean[] met = new boolean[MOST_CLASSES];

        int add(Type type) {
            if (count >= all.length) {
                return FULL;
            }
            all[count] = type;
            count++;
            return count - 1;
        }

        Type typeOf(int c) {
            return c >= 0 && c < count ? all[c] : null;
        }

        /** Fills the WAY of a CLASS and tells how many CLASSES are on it. */
        int wayLengthOf(int c) {
            wayLength = 0;
            for (int i = 0; i < met.length; i++) {
                met[i] = false;
            }
            int here = c;
            for (int i = 0; i <= MOST_ABOVE && meet(here); i++) {
                here = all[here].parent;
            }
            int line = wayLength;
            for (int i = 0; i < line; i++) {
                meetGuises(way[i], 0);
            }
            return wayLength;
        }

        boolean isBelow(int c, int d) {
            wayLengthOf(c);
            return typeOf(d) != null && met[d];
        }

        /** A CLASS has STARTED, and all above it; its GUISES have not. */
        void start(int c) {
            int here = c;
            for (int i = 0; i <= MOST_ABOVE && typeOf(here) != null; i++) {
                all[here].started = true;
                here = all[here].parent;
            }
        }

        int startedCount() {
            int started = 0;
            for (int c = 0; c < count; c++) {
                if (all[c].started) {
                    started++;
                }
            }
            return started;
        }

        /** Puts a CLASS on the WAY, if there is one and it is not there yet. */
        private boolean meet(int c) {
            if (typeOf(c) == null || met[c] || wayLength >= way.length) {
                return false;
            }
            met[c] = true;
            way[wayLength] = c;
            wayLength++;
            return true;
        }

        private void meetGuises(int c, int depth) {
            Type type = typeOf(c);
            if (type == null || depth > MOST_CLASSES) {
                return;
            }
            for (int i = 0; i < type.guiseCount; i++) {
                if (meet(type.guises[i])) {
                    meetGuises(type.guises[i], depth + 1);
                }
            }
        }
    }

    /** An ENTRY of a TABLE: what the MEMBERS of one NAME come to. */
    private static final class Entry {
        final int name;
        int owner;
        int sort;
        int lane;
        int depth;
        int marks;
        int ownCount;
        /** The CLASS of the first of its OWN that is unlike its FIRST. */
        int unlike;

        Entry(int name) {
            this.name = name;
        }

        void forget() {
            ownCount = 0;
            marks = 0;
            unlike = NONE;
        }

        void take(int c, Member member) {
            if (ownCount == 0) {
                owner = c;
                sort = member.sort;
                lane = member.lane;
                depth = member.depth;
            } else if (unlike == NONE && (lane != member.lane || depth != member.depth)) {
                unlike = c;
            }
            marks |= member.marks;
            ownCount++;
        }
    }

    /** THE TABLE of a CLASS as it was when it was read, or the RULE against it. */
    private static final class Table {
        private final Entry[] byName = new Entry[NAMES];
        private final Entry[] entries = new Entry[NAMES];
        int count;
        int rule;
        int ruleName = NONE;
        int ruleClass = NONE;
        int ruleOther = NONE;

        Table() {
            for (int name = 0; name < NAMES; name++) {
                byName[name] = new Entry(name);
            }
        }

        Entry entryAt(int i) {
            return i >= 0 && i < count ? entries[i] : null;
        }

        void read(Types types, int c) {
            forget();
            int length = types.wayLengthOf(c);
            for (int i = 0; i < length; i++) {
                takeMembers(types.way[i], types.typeOf(types.way[i]));
            }
            gather();
            lookForClash();
            lookForSecondKey();
            if (rule != 0) {
                count = 0;
            }
        }

        private void forget() {
            for (int name = 0; name < NAMES; name++) {
                byName[name].forget();
            }
            rule = 0;
            ruleName = NONE;
            ruleClass = NONE;
            ruleOther = NONE;
        }

        /** By SORTS, so that the order in which MEMBERS came does not count. */
        private void takeMembers(int c, Type type) {
            if (type == null) {
                return;
            }
            for (int sort = 0; sort < SORTS; sort++) {
                for (int i = 0; i < type.memberCount; i++) {
                    if (type.members[i].sort == sort) {
                        takeMember(c, type.members[i]);
                    }
                }
            }
        }

        private void takeMember(int c, Member member) {
            if (member.isMarked(STATIC | KEY) && (rule == 0 || member.name < ruleName)) {
                tell(STATIC_KEY, member.name, c, NONE);
            }
            if (!member.isMarked(HIDDEN) && !member.isMarked(STATIC) && isName(member.name)) {
                byName[member.name].take(c, member);
            }
        }

        private void gather() {
            count = 0;
            for (int name = 0; name < NAMES; name++) {
                if (byName[name].ownCount > 0) {
                    entries[count] = byName[name];
                    count++;
                }
            }
        }

        private void lookForClash() {
            for (int i = 0; i < count && rule == 0; i++) {
                if (entries[i].unlike != NONE) {
                    tell(CLASH, entries[i].name, entries[i].owner, entries[i].unlike);
                }
            }
        }

        private void lookForSecondKey() {
            int keys = 0;
            for (int i = 0; i < count && rule == 0; i++) {
                if ((entries[i].marks & KEY) != 0) {
                    keys++;
                }
                if (keys == 2) {
                    tell(SECOND_KEY, entries[i].name, entries[i].owner, NONE);
                }
            }
        }

        private void tell(int broken, int name, int c, int other) {
            rule = broken;
            ruleName = name;
            ruleClass = c;
            ruleOther = other;
        }
    }

    /** A ROW of CELLS, each held as it is told. */
    private static final class Row {
        final long[] cells;

        Row(int count, int lane) {
            cells = new long[Math.max(count, 0)];
            if (lane == THINGS) {
                Arrays.fill(cells, NONE);
            }
        }

        Row(Row row) {
            cells = row.cells.clone();
        }

        boolean has(int i) {
            return i >= 0 && i < cells.length;
        }

        /** Tested by what is left behind the start, because start and count together could go round. */
        boolean hasRange(int start, int count) {
            return start >= 0 && start <= cells.length && count >= 0 && count <= cells.length - start;
        }

        boolean isLike(Row other) {
            if (cells.length != other.cells.length) {
                return false;
            }
            for (int i = 0; i < cells.length; i++) {
                if (cells[i] != other.cells[i]) {
                    return false;
                }
            }
            return true;
        }

        /** What the curve through the CELLS, of BITS, is at x. */
        long curveAt(long x) {
            if (cells.length == 0) {
                return Numbers.NOT_A_NUMBER;
            }
            long floor = Numbers.floorOf(x);
            long part = Numbers.sum(x, Numbers.negated(floor));
            int place = (int) Math.floorMod(Numbers.wholeOf(floor), (long) cells.length);
            int next = place + 1 < cells.length ? place + 1 : 0;
            long a = cells[place];
            long b = cells[next];
            if (Numbers.isZero(part)) {
                return Numbers.isFinite(a) ? a : Numbers.NOT_A_NUMBER;
            }
            if (!Numbers.isFinite(a) || !Numbers.isFinite(b)) {
                return Numbers.NOT_A_NUMBER;
            }
            long rise = Numbers.sum(b, Numbers.negated(a));
            return Numbers.sum(a, Numbers.product(rise, part));
        }
    }

    /** A SLOT has a ROW of CELLS or, of DEPTH 2, places that have one each; null where there is nothing. */
    private static final class Slot {
        final int name;
        final int lane;
        final int depth;
        final int marks;
        Row row;
        Row[] places;

        Slot(Entry entry) {
            name = entry.name;
            lane = entry.lane;
            depth = entry.depth;
            marks = entry.marks;
            if (depth == 0) {
                row = new Row(1, lane);
            }
        }

        Slot(Slot slot) {
            name = slot.name;
            lane = slot.lane;
            depth = slot.depth;
            marks = slot.marks;
            if (slot.row != null) {
                row = new Row(slot.row);
            }
            if (slot.places != null) {
                places = new Row[slot.places.length];
                for (int i = 0; i < places.length; i++) {
                    if (slot.places[i] != null) {
                        places[i] = new Row(slot.places[i]);
                    }
                }
            }
        }

        boolean hasNothing() {
            return row == null && places == null;
        }

        void empty() {
            row = null;
            places = null;
        }

        void fillAnew(int count) {
            if (depth == 2) {
                places = new Row[Math.max(count, 0)];
            } else {
                row = new Row(count, lane);
            }
        }

        int length() {
            if (places != null) {
                return places.length;
            }
            return row == null ? 0 : row.cells.length;
        }

        /** The ROW that has CELL i or, of DEPTH 2, that at place i. */
        Row rowAt(int i) {
            if (places == null) {
                return row;
            }
            return i >= 0 && i < places.length ? places[i] : null;
        }

        /** The first FAULT on the way to a CELL, 0 if there is none. */
        int faultAt(int i, int j) {
            if (hasNothing()) {
                return NULL;
            }
            if (i < 0 || i >= length()) {
                return INDEX;
            }
            Row inner = rowAt(i);
            if (inner == null) {
                return NULL;
            }
            return inner.has(depth == 2 ? j : i) ? 0 : INDEX;
        }

        long cellAt(int i, int j) {
            Row inner = rowAt(i);
            int at = depth == 2 ? j : i;
            return inner != null && inner.has(at) ? inner.cells[at] : 0;
        }

        void putCell(int i, int j, long cell) {
            Row inner = rowAt(i);
            int at = depth == 2 ? j : i;
            if (inner != null && inner.has(at)) {
                inner.cells[at] = cell;
            }
        }

        boolean isLike(Slot other) {
            if (name != other.name || lane != other.lane || depth != other.depth) {
                return false;
            }
            if (hasNothing() || other.hasNothing()) {
                return hasNothing() && other.hasNothing();
            }
            if (length() != other.length()) {
                return false;
            }
            int rows = depth == 2 ? length() : 1;
            for (int i = 0; i < rows; i++) {
                if (!areLike(rowAt(i), other.rowAt(i))) {
                    return false;
                }
            }
            return true;
        }

        private static boolean areLike(Row one, Row other) {
            if (one == null || other == null) {
                return one == null && other == null;
            }
            return one.isLike(other);
        }
    }

    /** An OBJECT. */
    private static final class Thing {
        final int type;
        final Slot[] slots;

        Thing(int type, Table table) {
            this.type = type;
            slots = new Slot[table.count];
            for (int s = 0; s < slots.length; s++) {
                slots[s] = new Slot(table.entryAt(s));
            }
        }

        Thing(Thing thing) {
            type = thing.type;
            slots = new Slot[thing.slots.length];
            for (int s = 0; s < slots.length; s++) {
                slots[s] = new Slot(thing.slots[s]);
            }
        }

        Slot slotAt(int s) {
            return s >= 0 && s < slots.length ? slots[s] : null;
        }

        int slotNumber(int name) {
            for (int s = 0; s < slots.length; s++) {
                if (slots[s].name == name) {
                    return s;
                }
            }
            return NONE;
        }

        Slot slotNamed(int name) {
            return slotAt(slotNumber(name));
        }

        boolean hasKey(long key) {
            for (int s = 0; s < slots.length; s++) {
                Slot slot = slots[s];
                boolean isKey = (slot.marks & KEY) != 0 && slot.depth == 0 && slot.lane != THINGS;
                if (isKey && slot.cellAt(0, 0) == key) {
                    return true;
                }
            }
            return false;
        }

        boolean isLike(Thing other) {
            if (type != other.type || slots.length != other.slots.length) {
                return false;
            }
            for (int s = 0; s < slots.length; s++) {
                if (!slots[s].isLike(other.slots[s])) {
                    return false;
                }
            }
            return true;
        }
    }

    /** THE COLUMN: CELLS of one LANE, from many OBJECTS. */
    private static final class Column {
        private static final int HOW_MANY = 0, LEAST = 1, GREATEST = 2, SUM = 3, SUM_OF_WHOLES = 4;

        final long[] cells = new long[MOST_OBJECTS];
        int count;
        private int lane;
        /** Whether there was a COLUMN at all. */
        boolean begun;

        void begin(int itsLane) {
            lane = itsLane;
            count = 0;
            begun = true;
        }

        /** Takes the one CELL of a SLOT; false: it is not WIDENED so. */
        boolean take(Slot slot) {
            if (!Numbers.widens(slot.lane, lane) || count >= cells.length) {
                return false;
            }
            cells[count] = Numbers.widened(slot.cellAt(0, 0), slot.lane, lane);
            count++;
            return true;
        }

        long folded(int what) {
            if (what < HOW_MANY || what > SUM_OF_WHOLES) {
                return Numbers.NOT_A_NUMBER;
            }
            boolean isChosen = what == LEAST || what == GREATEST;
            int numbers = 0;
            // Sums begin at 0.0, which makes 0.0 of a lone -0.0; the least and the greatest begin with a number.
            long result = 0;
            for (int i = 0; i < count; i++) {
                long number = Numbers.widened(cells[i], lane, DOUBLES);
                if (Numbers.isFinite(number)) {
                    result = isChosen && numbers == 0 ? number : joined(what, result, number);
                    numbers++;
                }
            }
            if (what == HOW_MANY) {
                return Numbers.ofWhole(numbers, false);
            }
            return isChosen && numbers == 0 ? Numbers.NOT_A_NUMBER : result;
        }

        private static long joined(int what, long result, long number) {
            switch (what) {
                case LEAST: return Numbers.isLess(number, result) ? number : result;
                case GREATEST: return Numbers.isLess(result, number) ? number : result;
                case SUM: return Numbers.sum(result, number);
                case SUM_OF_WHOLES: return Numbers.sum(result, Numbers.nearestWhole(number));
                default: return result;
            }
        }
    }

    /** A LIST, of CLASSES. */
    private static final class Roster {
        private static final int TAKES_ALL = 0, TAKES_PLAIN = 1;

        private final int takes;
        final int[] places;

        Roster(int takes, int count) {
            this.takes = takes;
            places = new int[Math.max(count, 0)];
            Arrays.fill(places, NONE);
        }

        boolean has(int i) {
            return i >= 0 && i < places.length;
        }

        boolean takesType(Type type) {
            if (takes == TAKES_ALL) {
                return true;
            }
            if (takes == TAKES_PLAIN) {
                return type.isPlainOrRecord();
            }
            return type.form == CHOICES || type.form == BODY;
        }
    }

    /**
     * The numbers of the LANES, from one to another, and sums and products of BITS. A number of BITS is its digits
     * times a power of two. All of it is done on longs, because the language leaves no way between BITS and doubles.
     */
    private static final class Numbers {
        static final long NOT_A_NUMBER = 0x7ff8000000000000L;

        private static final long SIGN = 0x8000000000000000L, MAGNITUDE = 0x7fffffffffffffffL;
        private static final long ENDLESS = 0x7ff0000000000000L;
        private static final long HIDDEN_DIGIT = 0x0010000000000000L, SEEN_DIGITS = 0x000fffffffffffffL;
        private static final int DOUBLE_DIGITS = 53, DOUBLE_LEAST_POWER = -1074, DOUBLE_TOP = 1024;
        private static final int FLOAT_DIGITS = 24, FLOAT_LEAST_POWER = -149, FLOAT_TOP = 128;
        private static final int EXPONENT_OF_ONE = 1023, SPARE_DIGITS = 9;
        private static final int HALF = 27;
        private static final long LOW_HALF = 0x7ffffffL;

        /** Of each LANE the LANES that it is WIDENED to, as bits; its own among them, but for THINGS. */
        private static final int[] WIDENED_TO = {
            0b01111011, 0b01111010, 0b01111100, 0b01111000, 0b01110000, 0b01100000, 0b01000000, 0b10000000, 0
        };

        static long become(long v, int lane) {
            switch (lane) {
                case BYTES: return (byte) v;
                case SHORTS: return (short) v;
                case CHARS: return (char) v;
                case INTS: return (int) v;
                case FLOATS: return toFloat(v);
                case DOUBLES: return isNotANumber(v) ? NOT_A_NUMBER : v;
                case TRUTHS: return v != 0 ? 1 : 0;
                default: return v;
            }
        }

        static boolean widens(int from, int to) {
            return from >= 0 && from < WIDENED_TO.length && (WIDENED_TO[from] >> to & 1) != 0;
        }

        /** TRUTHS become DOUBLES here too, 1.0 and 0.0, as a COLUMN that is folded wants them. */
        static long widened(long cell, int from, int to) {
            boolean hasBits = from == FLOATS || from == DOUBLES;
            if (hasBits || to != FLOATS && to != DOUBLES) {
                return cell;
            }
            return ofWhole(cell, to == FLOATS);
        }

        static boolean isFinite(long bits) {
            return (bits & ENDLESS) != ENDLESS;
        }

        static boolean isZero(long bits) {
            return (bits & MAGNITUDE) == 0;
        }

        static long negated(long bits) {
            return bits ^ SIGN;
        }

        /** As Math.min and Math.max have it: -0.0 is less than 0.0. */
        static boolean isLess(long a, long b) {
            return inOrder(a) < inOrder(b);
        }

        static long ofWhole(long v, boolean asFloat) {
            return v < 0 ? rounded(SIGN, -v, 0, asFloat) : rounded(0, v, 0, asFloat);
        }

        static long floorOf(long bits) {
            int behind = -powerOf(bits);
            if (behind <= 0) {
                return bits;
            }
            long whole = behind < 64 ? digitsOf(bits) >>> behind : 0;
            boolean isWhole = behind < 64 ? whole << behind == digitsOf(bits) : isZero(bits);
            if (bits < 0 && !isWhole) {
                whole++;
            }
            return packed(bits & SIGN, whole, 0, DOUBLE_TOP);
        }

        /** Math.rint: halves go to the even one. */
        static long nearestWhole(long bits) {
            int behind = -powerOf(bits);
            return behind <= 0 ? bits : packed(bits & SIGN, withoutDigits(digitsOf(bits), behind), 0, DOUBLE_TOP);
        }

        /** The cast to a long: without what is behind the point, and held at the ends of the longs. */
        static long wholeOf(long bits) {
            int power = powerOf(bits);
            if (power > 10) {
                return bits < 0 ? SIGN : MAGNITUDE;
            }
            long whole = power >= 0 ? digitsOf(bits) << power : power > -64 ? digitsOf(bits) >>> -power : 0;
            return bits < 0 ? -whole : whole;
        }

        /** The sum of two numbers, of which one may be endless. */
        static long sum(long a, long b) {
            boolean isInOrder = (a & MAGNITUDE) >= (b & MAGNITUDE);
            long large = isInOrder ? a : b;
            long small = isInOrder ? b : a;
            if (!isFinite(large)) {
                return large;
            }
            int power = powerOf(large);
            long digits = digitsOf(large) << SPARE_DIGITS;
            long more = shiftedDown(digitsOf(small) << SPARE_DIGITS, power - powerOf(small));
            boolean isSameSign = (a ^ b) >= 0;
            if (!isSameSign && digits == more) {
                return 0;
            }
            return rounded(large & SIGN, isSameSign ? digits + more : digits - more, power - SPARE_DIGITS, false);
        }

        /** The product of a number, which may be endless, and one that is neither endless nor 0. */
        static long product(long a, long b) {
            long sign = (a ^ b) & SIGN;
            if (!isFinite(a)) {
                return sign | a & MAGNITUDE;
            }
            if (isZero(a)) {
                return sign;
            }
            int upA = DOUBLE_DIGITS - lengthOf(digitsOf(a));
            int upB = DOUBLE_DIGITS - lengthOf(digitsOf(b));
            long x = digitsOf(a) << upA;
            long y = digitsOf(b) << upB;
            long low = (x & LOW_HALF) * (y & LOW_HALF);
            long middle = (x >>> HALF) * (y & LOW_HALF) + (x & LOW_HALF) * (y >>> HALF) + (low >>> HALF);
            long high = (x >>> HALF) * (y >>> HALF) + (middle >>> HALF);
            long rest = (middle & LOW_HALF) << HALF | low & LOW_HALF;
            // All of the rest but its first digits counts only as something or nothing, which rounding looks for.
            long digits = high << SPARE_DIGITS | shiftedDown(rest, 2 * HALF - SPARE_DIGITS);
            int power = powerOf(a) - upA + powerOf(b) - upB;
            return rounded(sign, digits, power + 2 * HALF - SPARE_DIGITS, false);
        }

        private static boolean isNotANumber(long bits) {
            return (bits & MAGNITUDE) > ENDLESS;
        }

        /** Longs that lie as the numbers of the BITS do. */
        private static long inOrder(long bits) {
            return bits < 0 ? bits ^ MAGNITUDE : bits;
        }

        private static long toFloat(long bits) {
            if (isNotANumber(bits)) {
                return NOT_A_NUMBER;
            }
            return isFinite(bits) ? rounded(bits & SIGN, digitsOf(bits), powerOf(bits), true) : bits;
        }

        private static long digitsOf(long bits) {
            long seen = bits & SEEN_DIGITS;
            return (bits & ENDLESS) == 0 ? seen : seen | HIDDEN_DIGIT;
        }

        /** The power of two of the last digit. */
        private static int powerOf(long bits) {
            int exponent = (int) ((bits & ENDLESS) >>> DOUBLE_DIGITS - 1);
            return Math.max(exponent, 1) - 1 + DOUBLE_LEAST_POWER;
        }

        /** How many binary digits a number without a sign has. */
        private static int lengthOf(long digits) {
            int length = 64;
            while (length > 0 && digits >>> length - 1 == 0) {
                length--;
            }
            return length;
        }

        /** Without the last digits, but odd if one of those was not 0. */
        private static long shiftedDown(long digits, int count) {
            if (count > 62) {
                return digits == 0 ? 0 : 1;
            }
            long kept = digits >>> count;
            return kept << count == digits ? kept : kept | 1;
        }

        /** Without the last digits, rounded to the nearest, halves to the even one. */
        private static long withoutDigits(long digits, int count) {
            if (count <= 0 || count > 64) {
                return count <= 0 ? digits : 0;
            }
            long kept = count == 64 ? 0 : digits >>> count;
            long lost = digits << 64 - count;
            boolean isHalf = lost == SIGN;
            boolean isMore = lost < 0 && !isHalf;
            return isMore || isHalf && (kept & 1) != 0 ? kept + 1 : kept;
        }

        /** The BITS of the double, or of the float as a double, that is nearest to digits (without a sign) by a power. */
        private static long rounded(long sign, long digits, int power, boolean asFloat) {
            int tooLong = lengthOf(digits) - (asFloat ? FLOAT_DIGITS : DOUBLE_DIGITS);
            int tooSmall = (asFloat ? FLOAT_LEAST_POWER : DOUBLE_LEAST_POWER) - power;
            int lost = Math.max(Math.max(tooLong, tooSmall), 0);
            return packed(sign, withoutDigits(digits, lost), power + lost, asFloat ? FLOAT_TOP : DOUBLE_TOP);
        }

        /** The BITS of a number that needs no rounding; endless, if it reaches the power of two that is the top. */
        private static long packed(long sign, long digits, int power, int top) {
            int length = lengthOf(digits);
            if (length == 0) {
                return sign;
            }
            if (power + length > top) {
                return sign | ENDLESS;
            }
            int exponent = power + length - 1 + EXPONENT_OF_ONE;
            if (exponent < 1) {
                return sign | digits << power - DOUBLE_LEAST_POWER;
            }
            int up = DOUBLE_DIGITS - length;
            long filled = up >= 0 ? digits << up : digits >>> -up;
            return sign | (long) exponent << DOUBLE_DIGITS - 1 | filled & SEEN_DIGITS;
        }
    }
}
