import java.util.Random;

/** The casts, widenings, sums and products that MemberScanner does on BITS, against the machine's own. */
public final class NumberRuns {
    private static final int CASES = 400_000;
    private static final double[] ODD = {
        0.0, -0.0, 1.0, -1.0, 0.5, -0.5, 1.5, 2.5, -2.5, 0.49999999999999994, 4503599627370495.5, 4503599627370496.0,
        -4503599627370497.0, 9007199254740993.0, 9.223372036854775E18, 9.223372036854776E18, -9.223372036854776E18, 1.0E19, -1.0E300,
        Double.MAX_VALUE, -Double.MAX_VALUE, Double.MIN_VALUE, -Double.MIN_VALUE, Double.MIN_NORMAL, 2.2250738585072011E-308,
        Float.MAX_VALUE, Float.MIN_VALUE, Float.MIN_NORMAL, 7.0E-46, 7.1E-46, 3.4028235677973366E38, 3.4028235677973362E38, 1.0E-320,
        Double.POSITIVE_INFINITY, Double.NEGATIVE_INFINITY, Double.NaN
    };

    private static final Random RANDOM = new Random(7);
    private static int wrong;

    private static MemberScanner scanner;
    private static int calls = 1000;

    public static void main(String[] args) {
        for (int i = 0; i < CASES; i++) {
            casts(any());
            curve(any(), near(), any());
            folds(any(), any(), any());
        }
        for (double a : ODD) {
            casts(a);
            for (double b : ODD) {
                for (double x : ODD) {
                    curve(a, b, x);
                    folds(a, b, x);
                }
            }
        }
        for (int i = 0; i < CASES; i++) {
            wholes(RANDOM.nextLong() >> RANDOM.nextInt(64));
            wholes((1L << RANDOM.nextInt(64)) + (1L << RANDOM.nextInt(64)) + RANDOM.nextInt(3) - 1);
        }
        wholes(Long.MIN_VALUE);
        wholes(Long.MAX_VALUE);
        wholes(0);
        System.out.println(wrong == 0 ? "numbers: all as the machine has them" : "numbers: " + wrong + " are wrong");
        if (wrong != 0) {
            System.exit(1);
        }
    }

    /** An object is used for 512 calls at most, so now and then there is a new one: three OBJECTS of one CLASS. */
    private static void fresh(int wanted) {
        calls += wanted;
        if (calls <= 450) {
            return;
        }
        calls = wanted;
        scanner = new MemberScanner();
        scanner.cls(0, -9);
        scanner.member(0, 0, 0, 6, 0, 0);
        scanner.member(0, 0, 1, 5, 0, 0);
        scanner.member(0, 0, 2, 4, 0, 0);
        scanner.member(0, 0, 3, 3, 0, 0);
        scanner.member(0, 0, 4, 6, 1, 0);
        scanner.member(0, 0, 5, 5, 1, 0);
        for (int o = 0; o < 3; o++) {
            scanner.make(0);
        }
        scanner.row(0, 4, 3);
        scanner.row(0, 5, 3);
    }

    private static double any() {
        switch (RANDOM.nextInt(6)) {
            case 0: return ODD[RANDOM.nextInt(ODD.length)];
            case 1: return Double.longBitsToDouble(RANDOM.nextLong());
            case 2: return RANDOM.nextInt(2000) / 8.0 - 125;
            case 3: return Double.longBitsToDouble(RANDOM.nextLong() & 0x801fffffffffffffL);
            case 4: return near();
            default: return RANDOM.nextGaussian() * Math.pow(2, RANDOM.nextInt(120) - 60);
        }
    }

    private static double last = 1;

    /** Near to the one before, so that digits are lost on both sides of a half. */
    private static double near() {
        double scale = Math.pow(2, RANDOM.nextInt(120) - 60);
        last = RANDOM.nextInt(3) == 0 ? RANDOM.nextDouble() * scale : last * scale * (RANDOM.nextBoolean() ? 1 : -1.25);
        if (last == 0 || Double.isNaN(last) || Double.isInfinite(last)) {
            last = 1;
        }
        return last;
    }

    private static long bits(double d) {
        return Double.doubleToLongBits(d);
    }

    private static void casts(double d) {
        fresh(4);
        scanner.set(0, 0, 0, 0, Double.doubleToRawLongBits(d));
        due("as a double", d, scanner.get(0, 0, 0, 0), bits(d));
        scanner.set(0, 1, 0, 0, Double.doubleToRawLongBits(d));
        due("as a float", d, scanner.get(0, 1, 0, 0), bits((float) d));
    }

    private static void wholes(long v) {
        fresh(6);
        scanner.set(0, 2, 0, 0, v);
        due("long to float", v, scanner.wide(0, 2, 0, 5), bits((float) v));
        due("long to double", v, scanner.wide(0, 2, 0, 6), bits((double) v));
        scanner.set(0, 3, 0, 0, v);
        due("int to float", v, scanner.wide(0, 3, 0, 5), bits((float) (int) v));
        due("int to double", v, scanner.wide(0, 3, 0, 6), bits((double) (int) v));
    }

    private static void curve(double a, double b, double x) {
        fresh(6);
        scanner.set(0, 4, 1, 0, bits(a));
        scanner.set(0, 4, 2, 0, bits(b));
        long due = Double.isFinite(x) ? bits(Oracle.curve(new double[] {0, a, b}, x)) : bits(Double.NaN);
        due("curve of doubles", x, scanner.at(0, 4, bits(x)), due);
        scanner.set(0, 5, 1, 0, bits(a));
        scanner.set(0, 5, 2, 0, bits(b));
        due = Double.isFinite(x) ? bits(Oracle.curve(new float[] {0, (float) a, (float) b}, x)) : bits(Double.NaN);
        due("curve of floats", x, scanner.at(0, 5, bits(x)), due);
    }

    private static void folds(double... three) {
        fresh(9);
        double least = Double.POSITIVE_INFINITY;
        double most = Double.NEGATIVE_INFINITY;
        double sum = 0.0;
        double wholes = 0.0;
        int count = 0;
        for (int o = 0; o < three.length; o++) {
            scanner.set(o, 0, 0, 0, bits(three[o]));
            if (Double.isFinite(three[o])) {
                least = Math.min(least, three[o]);
                most = Math.max(most, three[o]);
                sum += three[o];
                wholes += Math.rint(three[o]);
                count++;
            }
        }
        scanner.column(0, 0, 6);
        due("how many", three[0], scanner.fold(0), bits(count));
        due("least", three[0], scanner.fold(1), bits(count == 0 ? Double.NaN : least));
        due("greatest", three[0], scanner.fold(2), bits(count == 0 ? Double.NaN : most));
        due("sum", three[0], scanner.fold(3), bits(sum));
        due("sum of wholes", three[0], scanner.fold(4), bits(wholes));
    }

    private static void due(String what, double of, long got, long want) {
        if (got != want) {
            wrong++;
            if (wrong < 50) {
                System.out.println(what + " of " + of + ": " + Long.toHexString(got) + ", due is " + Long.toHexString(want));
            }
        }
    }
}
