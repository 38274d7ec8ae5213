import java.lang.reflect.Array;
import java.util.ArrayList;
import java.util.LinkedHashSet;
import java.util.List;
import java.util.Map;
import java.util.Set;
import java.util.TreeMap;

/**
 * The document once more, written with what MemberScanner may not use: real rows of nine lanes, reflection's
 * widening, the machine's own exceptions, java.lang.Math on doubles. RandomRuns compares the two.
 */
final class Oracle {
    static final int UNKNOWN = -1, OUTSIDE = -2, STATE = -3, FULL = -4, NONE = -9;

    record M(K owner, int sort, int name, int lane, int depth, int marks) { }

    static class K {
        int number, form;
        K parent;
        List<K> guises = new ArrayList<>();
        List<Integer> bounds = new ArrayList<>();
        List<M> members = new ArrayList<>();
        boolean started;
        int tally;
        int cost() { return 5; }
    }

    static class AbstractK extends K { }

    static class GuiseK extends K {
        @Override int cost() { return 7; }
    }

    static class PlainK extends K {
        int plainTally;
        @Override int cost() { return 10; }
        int offer() { return cost() + members.size(); }
    }

    static class RecordK extends PlainK {
        int recordTally;
        @Override int cost() { return super.cost() + 2; }
        @Override int offer() { return 2 * cost(); }
    }

    static class ChoicesK extends K { }

    static class BodyK extends ChoicesK {
        @Override int cost() { return super.cost() + 1; }
    }

    record E(int name, M first, int marks, int own) { }

    static final class T {
        List<E> entries = new ArrayList<>();
        int[] broken = {0, NONE, NONE, NONE};
    }

    static final class O {
        int number;
        K k;
        List<E> slots;
        Object[] has;
    }

    static final class KindException extends RuntimeException {
        private static final long serialVersionUID = 1;
    }

    private final List<K> classes = new ArrayList<>();
    private final List<O> objects = new ArrayList<>();
    private T table = new T();
    private Object column;
    private final K[][] lists = new K[4][];
    private int fault, faults;

    private interface Act {
        long run();
    }

    private long caught(Act act) {
        fault = 0;
        try {
            return act.run();
        } catch (NullPointerException e) {
            fault = 1;
        } catch (ClassCastException e) {
            fault = 2;
        } catch (ArrayIndexOutOfBoundsException e) {
            fault = 3;
        } catch (ArrayStoreException e) {
            fault = 4;
        } catch (NegativeArraySizeException e) {
            fault = 5;
        } catch (ArithmeticException e) {
            fault = 6;
        } catch (KindException e) {
            fault = 7;
        }
        faults++;
        return -10 - fault;
    }

    private int caughtInt(Act act) {
        return (int) caught(act);
    }

    private long caughtLong(Act act) {
        long answer = caught(act);
        return fault == 0 ? answer : 0;
    }

    private K k(int c) {
        return c >= 0 && c < classes.size() ? classes.get(c) : null;
    }

    private O o(int o) {
        return o >= 0 && o < objects.size() ? objects.get(o) : null;
    }

    private E slotAt(int o, int s) {
        return o(o) == null || s < 0 || s >= o(o).slots.size() ? null : o(o).slots.get(s);
    }

    private static boolean in(int v, int from, int to) {
        return from <= v && v <= to;
    }

    public int cls(int form, int parent) {
        K p = k(parent);
        if (p == null && parent != NONE) return UNKNOWN;
        if (!in(form, 0, 5)) return OUTSIDE;
        if (form <= 1 && p != null && p.form > 1) return STATE;
        if (form == 5 && (p == null || p.form != 4)) return STATE;
        if (form >= 2 && form <= 4 && p != null) return STATE;
        int above = 0;
        for (K up = p; up != null; up = up.parent) above++;
        if (classes.size() == 40 || above > 7) return FULL;
        K made = switch (form) {
            case 0 -> new PlainK();
            case 1 -> new AbstractK();
            case 2 -> new GuiseK();
            case 3 -> new RecordK();
            case 4 -> new ChoicesK();
            default -> new BodyK();
        };
        made.number = classes.size();
        made.form = form;
        made.parent = p;
        classes.add(made);
        return made.number;
    }

    private static Set<K> wayOf(K k) {
        Set<K> way = new LinkedHashSet<>();
        for (K up = k; up != null; up = up.parent) way.add(up);
        for (K up = k; up != null; up = up.parent) addGuises(way, up);
        return way;
    }

    private static void addGuises(Set<K> way, K k) {
        for (K guise : k.guises) {
            way.add(guise);
            addGuises(way, guise);
        }
    }

    public int face(int c, int of) {
        if (k(c) == null || k(of) == null) return UNKNOWN;
        if (k(of).form != 2 || wayOf(k(of)).contains(k(c)) || k(c).guises.contains(k(of))) return STATE;
        if (k(c).guises.size() == 3) return FULL;
        k(c).guises.add(k(of));
        return k(c).guises.size();
    }

    public int variable(int c, int lane) {
        if (k(c) == null) return UNKNOWN;
        if (!in(lane, 0, 7)) return OUTSIDE;
        if (k(c).bounds.size() == 2) return FULL;
        k(c).bounds.add(lane);
        return k(c).bounds.size() - 1;
    }

    public int member(int c, int sort, int name, int lane, int depth, int marks) {
        K k = k(c);
        if (k == null) return UNKNOWN;
        if (!in(sort, 0, 2) || !in(name, 0, 30) || !in(lane, 0, 10) || !in(depth, 0, 2) || !in(marks, 0, 7)) return OUTSIDE;
        if (sort == 0 && k.form == 2 && (marks & 2) == 0) return STATE;
        if (sort == 2 && k.form != 3) return STATE;
        if (lane > 8 && k.bounds.size() <= lane - 9) return STATE;
        if (k.members.stream().anyMatch(m -> m.sort == sort && m.name == name)) return STATE;
        if (k.members.size() == 12) return FULL;
        k.members.add(new M(k, sort, name, lane > 8 ? k.bounds.get(lane - 9) : lane, depth, marks));
        return k.members.size() - 1;
    }

    public int says(int c, int what) {
        K k = k(c);
        if (k == null) return UNKNOWN;
        return switch (what) {
            case 0 -> k.form;
            case 1 -> k.parent == null ? NONE : k.parent.number;
            case 2 -> k.guises.size();
            case 3 -> k.bounds.size();
            case 4 -> k.members.size();
            case 5 -> wayOf(k).size();
            case 6 -> k.started ? 1 : 0;
            case 7 -> k.cost();
            case 8 -> 0;
            default -> OUTSIDE;
        };
    }

    public int way(int c, int i) {
        if (k(c) == null) return UNKNOWN;
        List<K> way = new ArrayList<>(wayOf(k(c)));
        return i < 0 || i >= way.size() ? NONE : way.get(i).number;
    }

    public int below(int c, int d) {
        if (k(c) == null || k(d) == null) return UNKNOWN;
        return wayOf(k(c)).contains(k(d)) ? 1 : 0;
    }

    /** All MEMBERS on a WAY in the order of the WAY and, in a CLASS, of SORTS; by NAMES. */
    private static Map<Integer, List<M>> membersByName(K k) {
        Map<Integer, List<M>> byName = new TreeMap<>();
        for (K on : wayOf(k)) {
            List<M> sorted = new ArrayList<>(on.members);
            sorted.sort((a, b) -> Integer.compare(a.sort, b.sort));
            for (M m : sorted) byName.computeIfAbsent(m.name, n -> new ArrayList<>()).add(m);
        }
        return byName;
    }

    private static T tableOf(K k) {
        T t = new T();
        Map<Integer, List<M>> all = membersByName(k);
        for (List<M> same : all.values()) {
            for (M m : same) {
                if ((m.marks & 6) == 6) {
                    t.broken = new int[] {1, m.name, m.owner.number, NONE};
                    return t;
                }
            }
        }
        Map<Integer, List<M>> own = new TreeMap<>();
        all.forEach((name, same) -> {
            List<M> seen = same.stream().filter(m -> (m.marks & 3) == 0).toList();
            if (!seen.isEmpty()) own.put(name, seen);
        });
        for (List<M> same : own.values()) {
            M first = same.get(0);
            for (M m : same) {
                if (m.lane != first.lane || m.depth != first.depth) {
                    t.broken = new int[] {2, m.name, first.owner.number, m.owner.number};
                    return t;
                }
            }
        }
        int keys = 0;
        List<E> entries = new ArrayList<>();
        for (List<M> same : own.values()) {
            int marks = 0;
            for (M m : same) marks |= m.marks;
            if ((marks & 4) != 0 && ++keys == 2) {
                t.broken = new int[] {3, same.get(0).name, same.get(0).owner.number, NONE};
                return t;
            }
            entries.add(new E(same.get(0).name, same.get(0), marks, same.size()));
        }
        t.entries = entries;
        return t;
    }

    public int scan(int c) {
        if (k(c) == null) return UNKNOWN;
        table = tableOf(k(c));
        return table.broken[0] == 0 ? table.entries.size() : -20 - table.broken[0];
    }

    public int broken(int what) {
        return in(what, 0, 3) ? table.broken[what] : OUTSIDE;
    }

    public int entry(int i, int what) {
        if (i < 0 || i >= table.entries.size()) return UNKNOWN;
        E e = table.entries.get(i);
        return switch (what) {
            case 0 -> e.name;
            case 1 -> e.first.owner.number;
            case 2 -> e.first.sort;
            case 3 -> e.first.lane;
            case 4 -> e.first.depth;
            case 5 -> e.marks;
            case 6 -> e.own;
            default -> OUTSIDE;
        };
    }

    public int tally(int c, int as, int v) {
        fault = 0;
        K k = k(c);
        if (k == null) return UNKNOWN;
        if (!in(as, 0, 2)) return OUTSIDE;
        return caughtInt(() -> as == 0 ? (k.tally += v) : as == 1 ? (((PlainK) k).plainTally += v) : (((RecordK) k).recordTally += v));
    }

    public int offer(int c) {
        fault = 0;
        if (k(c) == null) return UNKNOWN;
        return caughtInt(() -> ((PlainK) k(c)).offer());
    }

    public int hold(int c, int n, int v) {
        if (k(c) == null) return UNKNOWN;
        if (!in(n, 1, 20)) return OUTSIDE;
        for (int i = 0; i < n; i++) k(c).tally += v;
        return k(c).tally;
    }

    private static Object newRow(int lane, int n) {
        return switch (lane) {
            case 0 -> new byte[n];
            case 1 -> new short[n];
            case 2 -> new char[n];
            case 3 -> new int[n];
            case 4 -> new long[n];
            case 5 -> new float[n];
            case 6 -> new double[n];
            case 7 -> new boolean[n];
            default -> new O[n];
        };
    }

    public int make(int c) {
        K k = k(c);
        if (k == null) return UNKNOWN;
        if (k.form != 0 && k.form != 3) return STATE;
        T t = tableOf(k);
        if (t.broken[0] != 0) return STATE;
        if (objects.size() == 60 || t.entries.size() > 16) return FULL;
        for (K up = k; up != null; up = up.parent) up.started = true;
        O made = new O();
        made.number = objects.size();
        made.k = k;
        made.slots = t.entries;
        made.has = new Object[t.entries.size()];
        for (int s = 0; s < made.has.length; s++) {
            if (t.entries.get(s).first.depth == 0) made.has[s] = newRow(t.entries.get(s).first.lane, 1);
        }
        objects.add(made);
        return made.number;
    }

    public int of(int o, int what) {
        if (o(o) == null) return UNKNOWN;
        return what == 0 ? o(o).k.number : what == 1 ? o(o).slots.size() : OUTSIDE;
    }

    private static int slotOf(O o, int name) {
        for (int s = 0; s < o.slots.size(); s++) if (o.slots.get(s).name == name) return s;
        return NONE;
    }

    public int slot(int o, int name) {
        return o(o) == null ? UNKNOWN : slotOf(o(o), name);
    }

    public int kind(int o, int s, int what) {
        E e = slotAt(o, s);
        if (e == null) return UNKNOWN;
        return switch (what) {
            case 0 -> e.name;
            case 1 -> e.first.lane;
            case 2 -> e.first.depth;
            case 3 -> e.marks;
            default -> OUTSIDE;
        };
    }

    public int row(int o, int s, int n) {
        fault = 0;
        E e = slotAt(o, s);
        if (e == null) return UNKNOWN;
        if (n > 30) return OUTSIDE;
        if (e.first.depth == 0) return STATE;
        return caughtInt(() -> {
            o(o).has[s] = e.first.depth == 1 ? newRow(e.first.lane, n) : new Object[n];
            return 1;
        });
    }

    public int inner(int o, int s, int i, int n) {
        fault = 0;
        E e = slotAt(o, s);
        if (e == null) return UNKNOWN;
        if (n > 30) return OUTSIDE;
        if (e.first.depth != 2) return STATE;
        return caughtInt(() -> {
            Object made = newRow(e.first.lane, n);
            ((Object[]) o(o).has[s])[i] = made;
            return 1;
        });
    }

    public int drop(int o, int s) {
        E e = slotAt(o, s);
        if (e == null) return UNKNOWN;
        if (e.first.depth == 0) return STATE;
        int had = o(o).has[s] == null ? 0 : 1;
        o(o).has[s] = null;
        return had;
    }

    private static Object[] asPlaces(E e, Object has) {
        if (has != null && e.first.depth != 2) throw new ClassCastException();
        return (Object[]) has;
    }

    public int size(int o, int s, int i) {
        fault = 0;
        E e = slotAt(o, s);
        if (e == null) return UNKNOWN;
        Object has = o(o).has[s];
        return caughtInt(() -> i == NONE ? Array.getLength(has) : Array.getLength(asPlaces(e, has)[i]));
    }

    private static long toldAt(Object row, int i) {
        if (row instanceof double[] d) return Double.doubleToLongBits(d[i]);
        if (row instanceof float[] f) return Double.doubleToLongBits(f[i]);
        if (row instanceof boolean[] b) return b[i] ? 1 : 0;
        if (row instanceof O[] p) return p[i] == null ? NONE : p[i].number;
        return Array.getLong(row, i);
    }

    private Object rowFor(int o, int s, int i) {
        Object has = o(o).has[s];
        return slotAt(o, s).first.depth == 2 ? ((Object[]) has)[i] : has;
    }

    private int placeFor(int o, int s, int i, int j) {
        return slotAt(o, s).first.depth == 2 ? j : i;
    }

    public long get(int o, int s, int i, int j) {
        fault = 0;
        if (slotAt(o, s) == null) return 0;
        return caughtLong(() -> toldAt(rowFor(o, s, i), placeFor(o, s, i, j)));
    }

    private static void put(Object row, int i, long v) {
        if (row == null) throw new NullPointerException();
        if (row instanceof byte[] a) a[i] = (byte) v;
        else if (row instanceof short[] a) a[i] = (short) v;
        else if (row instanceof char[] a) a[i] = (char) v;
        else if (row instanceof int[] a) a[i] = (int) v;
        else if (row instanceof long[] a) a[i] = v;
        else if (row instanceof float[] a) a[i] = (float) Double.longBitsToDouble(v);
        else if (row instanceof double[] a) a[i] = Double.longBitsToDouble(v);
        else ((boolean[]) row)[i] = v != 0;
    }

    public int set(int o, int s, int i, int j, long v) {
        fault = 0;
        if (slotAt(o, s) == null) return UNKNOWN;
        if (slotAt(o, s).first.lane == 8) return STATE;
        return caughtInt(() -> {
            put(rowFor(o, s, i), placeFor(o, s, i, j), v);
            return 1;
        });
    }

    public int link(int o, int s, int i, int j, int p) {
        fault = 0;
        if (slotAt(o, s) == null || p != NONE && o(p) == null) return UNKNOWN;
        if (slotAt(o, s).first.lane != 8) return STATE;
        return caughtInt(() -> {
            ((O[]) rowFor(o, s, i))[placeFor(o, s, i, j)] = o(p);
            return 1;
        });
    }

    public long as(int o, int s, int i, int lane) {
        fault = 0;
        if (slotAt(o, s) == null || !in(lane, 0, 8)) return 0;
        Object has = o(o).has[s];
        return caughtLong(() -> switch (lane) {
            case 0 -> ((byte[]) has)[i];
            case 1 -> ((short[]) has)[i];
            case 2 -> ((char[]) has)[i];
            case 3 -> ((int[]) has)[i];
            case 4 -> ((long[]) has)[i];
            case 5 -> Double.doubleToLongBits(((float[]) has)[i]);
            case 6 -> Double.doubleToLongBits(((double[]) has)[i]);
            case 7 -> ((boolean[]) has)[i] ? 1 : 0;
            default -> ((O[]) has)[i] == null ? NONE : ((O[]) has)[i].number;
        });
    }

    private static long widened(Object row, int i, int lane) {
        try {
            return switch (lane) {
                case 0 -> Array.getByte(row, i);
                case 1 -> Array.getShort(row, i);
                case 2 -> Array.getChar(row, i);
                case 3 -> Array.getInt(row, i);
                case 4 -> Array.getLong(row, i);
                case 5 -> Double.doubleToLongBits(Array.getFloat(row, i));
                case 6 -> Double.doubleToLongBits(Array.getDouble(row, i));
                default -> Array.getBoolean(row, i) ? 1 : 0;
            };
        } catch (IllegalArgumentException e) {
            throw new KindException();
        }
    }

    public long wide(int o, int s, int i, int lane) {
        fault = 0;
        if (slotAt(o, s) == null || !in(lane, 0, 7)) return 0;
        Object has = o(o).has[s];
        return caughtLong(() -> widened(has, i, lane));
    }

    public int copy(int o, int s, int i, int p, int r, int k, int n) {
        fault = 0;
        E e = slotAt(o, s);
        E f = slotAt(p, r);
        if (e == null || f == null) return UNKNOWN;
        if (e.first.lane != f.first.lane || e.first.depth == 2 || f.first.depth == 2) return STATE;
        return caughtInt(() -> {
            System.arraycopy(o(o).has[s], i, o(p).has[r], k, n);
            return n;
        });
    }

    public int follow(int o, int name, int d) {
        fault = 0;
        if (o(o) == null) return UNKNOWN;
        if (!in(name, 0, 30) || !in(d, 0, 20)) return OUTSIDE;
        return caughtInt(() -> {
            O here = o(o);
            for (int n = 0; n < d; n++) {
                int s = slotOf(here, name);
                if (s == NONE) throw new KindException();
                here = ((O[]) here.has[s])[0];
                if (here == null) throw new NullPointerException();
            }
            return here.number;
        });
    }

    private static Object cloned(Object has) {
        if (has == null) return null;
        int n = Array.getLength(has);
        Object made = Array.newInstance(has.getClass().getComponentType(), n);
        for (int i = 0; i < n; i++) {
            Object each = Array.get(has, i);
            boolean isPlaces = has.getClass() == Object[].class;
            Array.set(made, i, isPlaces ? cloned(each) : each);
        }
        return made;
    }

    public int twin(int o) {
        if (o(o) == null) return UNKNOWN;
        if (objects.size() == 60) return FULL;
        O made = new O();
        made.number = objects.size();
        made.k = o(o).k;
        made.slots = o(o).slots;
        made.has = new Object[o(o).has.length];
        for (int s = 0; s < made.has.length; s++) made.has[s] = cloned(o(o).has[s]);
        objects.add(made);
        return made.number;
    }

    private static boolean alikeRows(Object a, Object b) {
        if (a == null || b == null) return a == b;
        if (Array.getLength(a) != Array.getLength(b)) return false;
        for (int i = 0; i < Array.getLength(a); i++) {
            boolean isPlaces = a.getClass() == Object[].class;
            if (isPlaces ? !alikeRows(Array.get(a, i), Array.get(b, i)) : toldAt(a, i) != toldAt(b, i)) return false;
        }
        return true;
    }

    public int alike(int o, int p) {
        O a = o(o);
        O b = o(p);
        if (a == null || b == null) return UNKNOWN;
        if (a.k != b.k || a.slots.size() != b.slots.size()) return 0;
        for (int s = 0; s < a.has.length; s++) {
            E e = a.slots.get(s);
            E f = b.slots.get(s);
            if (e.name != f.name || e.first.lane != f.first.lane || e.first.depth != f.first.depth) return 0;
            if (!alikeRows(a.has[s], b.has[s])) return 0;
        }
        return 1;
    }

    public int find(int c, long key) {
        if (k(c) == null) return UNKNOWN;
        for (O o : objects) {
            if (!wayOf(o.k).contains(k(c))) continue;
            for (int s = 0; s < o.has.length; s++) {
                E e = o.slots.get(s);
                if ((e.marks & 4) != 0 && e.first.depth == 0 && e.first.lane < 8 && toldAt(o.has[s], 0) == key) return o.number;
            }
        }
        return NONE;
    }

    /** What the KEY of an OBJECT is told as, for runs that look for one; 0 if it has none. */
    long keyOf(int o) {
        for (int s = 0; o(o) != null && s < o(o).has.length; s++) {
            E e = slotAt(o, s);
            if ((e.marks & 4) != 0 && e.first.depth == 0) return toldAt(o(o).has[s], 0);
        }
        return 0;
    }

    public int column(int c, int name, int lane) {
        fault = 0;
        if (k(c) == null) return UNKNOWN;
        if (!in(name, 0, 30) || !in(lane, 0, 7)) return OUTSIDE;
        List<Object> rows = new ArrayList<>();
        for (O o : objects) {
            int s = slotOf(o, name);
            if (s == NONE || !wayOf(o.k).contains(k(c))) continue;
            if (o.slots.get(s).first.depth == 0 && o.slots.get(s).first.lane < 8) rows.add(o.has[s]);
        }
        return caughtInt(() -> {
            Object made = newRow(lane, rows.size());
            for (int i = 0; i < rows.size(); i++) put(made, i, widened(rows.get(i), 0, lane));
            column = made;
            return rows.size();
        });
    }

    public long cell(int i) {
        fault = 0;
        return column == null ? 0 : caughtLong(() -> toldAt(column, i));
    }

    public long fold(int what) {
        int n = 0;
        double least = 0, most = 0, sum = 0, wholes = 0;
        for (int i = 0; column != null && i < Array.getLength(column); i++) {
            double d = column instanceof boolean[] b ? (b[i] ? 1.0 : 0.0) : Array.getDouble(column, i);
            if (Double.isNaN(d) || Double.isInfinite(d)) continue;
            least = n == 0 ? d : Math.min(least, d);
            most = n == 0 ? d : Math.max(most, d);
            sum += d;
            wholes += Math.rint(d);
            n++;
        }
        double answer = switch (what) {
            case 0 -> n;
            case 1 -> n == 0 ? Double.NaN : least;
            case 2 -> n == 0 ? Double.NaN : most;
            case 3 -> sum;
            case 4 -> wholes;
            default -> Double.NaN;
        };
        return Double.doubleToLongBits(answer);
    }

    public long at(int o, int s, long bits) {
        fault = 0;
        long nan = Double.doubleToLongBits(Double.NaN);
        double x = Double.longBitsToDouble(bits);
        E e = slotAt(o, s);
        if (e == null || Double.isNaN(x) || Double.isInfinite(x)) return nan;
        if (e.first.depth != 1 || e.first.lane != 5 && e.first.lane != 6) return nan;
        Object has = o(o).has[s];
        long answer = caught(() -> Double.doubleToLongBits(curve(has, x)));
        return fault == 0 ? answer : nan;
    }

    static double curve(Object row, double x) {
        int n = Array.getLength(row);
        long i = (long) Math.floor(x);
        double f = x - Math.floor(x);
        int place = Math.floorMod(i, n);
        double a = Array.getDouble(row, place);
        double b = Array.getDouble(row, place + 1 == n ? 0 : place + 1);
        if (!Double.isFinite(a)) return Double.NaN;
        if (f == 0.0) return a;
        return Double.isFinite(b) ? a + (b - a) * f : Double.NaN;
    }

    public int list(int k, int takes, int n) {
        fault = 0;
        if (!in(k, 0, 3)) return UNKNOWN;
        if (!in(takes, 0, 2) || n > 8) return OUTSIDE;
        return caughtInt(() -> {
            lists[k] = takes == 0 ? new K[n] : takes == 1 ? new PlainK[n] : new ChoicesK[n];
            return 1;
        });
    }

    public int stand(int k, int i, int c) {
        fault = 0;
        if (!in(k, 0, 3) || c != NONE && k(c) == null) return UNKNOWN;
        return caughtInt(() -> {
            lists[k][i] = k(c);
            return 1;
        });
    }

    public int board(int k, int i) {
        fault = 0;
        if (!in(k, 0, 3)) return UNKNOWN;
        return caughtInt(() -> lists[k][i] == null ? NONE : lists[k][i].number);
    }

    public int trial(int which, int way) {
        fault = 0;
        if (!in(which, 1, 7) || !in(way, 0, 15)) return OUTSIDE;
        fault = which;
        faults++;
        return -10 - which;
    }

    public int fault() {
        return fault;
    }

    public int told(int what) {
        return switch (what) {
            case 0 -> classes.size();
            case 1 -> objects.size();
            case 2 -> table.entries.size();
            case 3 -> (int) classes.stream().filter(k -> k.started).count();
            case 4 -> faults;
            case 5 -> column == null ? 0 : Array.getLength(column);
            default -> OUTSIDE;
        };
    }
}
