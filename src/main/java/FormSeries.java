/** A bench for FORMS: series of 48 numbers by rests of a prime, each with a WEIGHT; README.md says how to use it. */
public final class FormSeries {
    public static final int NONE = -1;
    public static final int MISSING = -2;
    public static final int BEYOND = -3;
    public static final int BELOW = -4;
    public static final int KIND = -5;
    public static final int COPY = -6;
    public static final int NO = -7;
    public static final int FULL = -8;

    private static final int EVEN = 0;
    private static final int SUMS = 1;
    private static final int PRODUCT = 2;
    private static final int CONST = 3;
    private static final int CUSP = 4;

    private static final long M = 1000003L;
    private static final int PLACES = 48;
    private static final int ROOM = 16;
    private static final int TOP_WEIGHT = 40;
    private static final int TOP_SIZE = 4;
    private static final int PRODUCT_WEIGHT = 12;
    private static final int TOP_PRODUCT = 3;
    private static final int TOP_POWER = 20;
    private static final int LEAST_PRIME_WEIGHT = 4;
    private static final int TOP_SQUARES = 8;
    private static final int SQUARE_PLACES = 100;

    private static final int[] SUMS_WEIGHTS = {4, 6, 8, 10, 12, 14};
    private static final int[] SUMS_FACTORS = {240, -504, 480, -264, 65520, -24};
    private static final int[] SUMS_DIVISORS = {1, 1, 1, 1, 691, 1};

    private final Form[] forms = new Form[ROOM];
    private int held;
    private final Bases bases = new Bases();
    private final long[] parts = new long[TOP_SIZE];
    private final long[] image = new long[TOP_SIZE];
    private final int[] ways = new int[SQUARE_PLACES];
    private final long[] theRow = new long[PLACES];
    private int rowLength = NONE;
    private final int[] refusals = new int[1 - FULL];

    public FormSeries() {
        for (int f = 0; f < ROOM; f++) {
            forms[f] = new Form();
        }
    }

    // ---- forms that come

    public int sums(int k) {
        int which = sumsIndex(k);
        if (which == NONE) {
            return refuse(NO);
        }
        if (!hasRoom(k)) {
            return refuse(FULL);
        }
        long factor = Rests.quotient(SUMS_FACTORS[which], SUMS_DIVISORS[which]);
        Series.putSums(factor, k - 1, forms[held].numbers);
        return comeAsTold(SUMS, k, k);
    }

    public int product(int e) {
        if (e < 1 || e > TOP_PRODUCT) {
            return refuse(NO);
        }
        int weight = PRODUCT_WEIGHT * e;
        if (!hasRoom(weight)) {
            return refuse(FULL);
        }
        Series.raise(bases.d, e, forms[held].numbers);
        return comeAsTold(PRODUCT, weight, e);
    }

    public int add(int f, int x, int g, int y) {
        if (!isForm(f) || !isForm(g)) {
            return refuse(BEYOND);
        }
        int weight = forms[f].weight;
        if (weight != forms[g].weight) {
            return refuse(NO);
        }
        if (!hasRoom(weight)) {
            return refuse(FULL);
        }
        long[] a = forms[f].numbers;
        long[] b = forms[g].numbers;
        long[] sum = forms[held].numbers;
        for (int n = 0; n < PLACES; n++) {
            sum[n] = Rests.rest(x * a[n] + y * b[n]);
        }
        return comeOfOthers(weight);
    }

    public int times(int f, int g) {
        if (!isForm(f) || !isForm(g)) {
            return refuse(BEYOND);
        }
        int weight = forms[f].weight + forms[g].weight;
        if (!hasRoom(weight)) {
            return refuse(FULL);
        }
        Series.multiply(forms[f].numbers, forms[g].numbers, forms[held].numbers);
        return comeOfOthers(weight);
    }

    public int power(int f, int e) {
        if (!isForm(f)) {
            return refuse(BEYOND);
        }
        if (e < 0) {
            return refuse(BELOW);
        }
        if (e > TOP_POWER) {
            return refuse(NO);
        }
        int weight = forms[f].weight * e;
        if (!hasRoom(weight)) {
            return refuse(FULL);
        }
        Series.raise(forms[f].numbers, e, forms[held].numbers);
        return comeOfOthers(weight);
    }

    public int slope(int f) {
        if (!isForm(f)) {
            return refuse(BEYOND);
        }
        int weight = forms[f].weight + 2;
        if (!hasRoom(weight)) {
            return refuse(FULL);
        }
        long[] a = forms[f].numbers;
        long[] slope = forms[held].numbers;
        long share = Rests.quotient(forms[f].weight, 12);
        Series.multiply(bases.e2, a, slope);
        for (int n = 0; n < PLACES; n++) {
            slope[n] = Rests.rest(n * a[n] - share * slope[n]);
        }
        return comeOfOthers(weight);
    }

    public int bracket(int f, int g) {
        if (!isForm(f) || !isForm(g)) {
            return refuse(BEYOND);
        }
        int weight = forms[f].weight + forms[g].weight + 2;
        if (!hasRoom(weight)) {
            return refuse(FULL);
        }
        Form.putBracket(forms[f], forms[g], forms[held].numbers);
        return comeOfOthers(weight);
    }

    public int over(int f) {
        if (!isForm(f)) {
            return refuse(BEYOND);
        }
        int weight = forms[f].weight - PRODUCT_WEIGHT;
        if (weight < 0 || forms[f].numbers[0] != 0) {
            return refuse(NO);
        }
        if (!hasRoom(weight)) {
            return refuse(FULL);
        }
        // BASIS i of a WEIGHT is D times BASIS i - 1 of the WEIGHT less 12, so the PARTS move down by one.
        bases.findParts(forms[f].weight, forms[f].numbers, parts);
        for (int i = 1; i < bases.sizeOf(forms[f].weight); i++) {
            parts[i - 1] = parts[i];
        }
        bases.join(weight, parts, forms[held].numbers);
        return comeOfOthers(weight);
    }

    public int prime(int f, int p) {
        if (!isForm(f)) {
            return refuse(BEYOND);
        }
        int weight = forms[f].weight;
        if (!isPrime(p) || weight < LEAST_PRIME_WEIGHT) {
            return refuse(NO);
        }
        if (!hasRoom(weight)) {
            return refuse(FULL);
        }
        bases.putImage(weight, forms[f].numbers, p, image);
        bases.findParts(weight, image, parts);
        bases.join(weight, parts, forms[held].numbers);
        return comeOfOthers(weight);
    }

    public int basis(int k, int i) {
        if (!isWeight(k)) {
            return refuse(NO);
        }
        if (i < 0 || i >= bases.sizeOf(k)) {
            return refuse(BEYOND);
        }
        if (!hasRoom(k)) {
            return refuse(FULL);
        }
        System.arraycopy(bases.rowOf(k, i), 0, forms[held].numbers, 0, PLACES);
        return comeOfOthers(k);
    }

    public int drop() {
        if (held <= 0) {
            return refuse(MISSING);
        }
        held--;
        return held;
    }

    // ---- what is told

    public int look(int f, int what) {
        if (!isForm(f)) {
            return refuse(BEYOND);
        }
        Form form = forms[f];
        switch (what) {
            case 0:
                return form.kind;
            case 1:
                return form.weight;
            case 2:
                return Series.leastPlace(form.numbers);
            case 3:
                return bases.sizeOf(form.weight);
            case 4:
                return form.kind == SUMS || form.kind == PRODUCT ? form.told : refuse(KIND);
            default:
                return refuse(NO);
        }
    }

    public int at(int f, int n) {
        if (!isForm(f) || n < 0 || n >= PLACES) {
            return refuse(BEYOND);
        }
        return (int) forms[f].numbers[n];
    }

    public int part(int f, int i) {
        if (!isForm(f) || i < 0 || i >= bases.sizeOf(forms[f].weight)) {
            return refuse(BEYOND);
        }
        bases.findParts(forms[f].weight, forms[f].numbers, parts);
        return (int) parts[i];
    }

    public int same(int f, int g) {
        if (!isForm(f) || !isForm(g)) {
            return refuse(BEYOND);
        }
        long[] a = forms[f].numbers;
        long[] b = forms[g].numbers;
        if (forms[f].weight == forms[g].weight) {
            return Series.firstUnlike(a, b) == NONE ? 1 : 0;
        }
        return Series.leastPlace(a) == NONE && Series.leastPlace(b) == NONE ? 1 : 0;
    }

    public int apart(int f, int g) {
        if (!isForm(f) || !isForm(g)) {
            return refuse(BEYOND);
        }
        if (forms[f].weight != forms[g].weight) {
            return refuse(NO);
        }
        return Series.firstUnlike(forms[f].numbers, forms[g].numbers);
    }

    public int size(int k) {
        return isWeight(k) ? bases.sizeOf(k) : refuse(NO);
    }

    public int own(int f, int p) {
        if (!isForm(f)) {
            return refuse(BEYOND);
        }
        int weight = forms[f].weight;
        if (!isPrime(p) || weight < LEAST_PRIME_WEIGHT) {
            return refuse(NO);
        }
        bases.putImage(weight, forms[f].numbers, p, image);
        return Series.ratio(image, forms[f].numbers, bases.sizeOf(weight));
    }

    public int trace(int k, int p, boolean cusp) {
        if (!isWeight(k) || k < LEAST_PRIME_WEIGHT || !isPrime(p)) {
            return refuse(NO);
        }
        long sum = 0;
        for (int i = cusp ? 1 : 0; i < bases.sizeOf(k); i++) {
            bases.putImage(k, bases.rowOf(k, i), p, image);
            bases.findParts(k, image, parts);
            sum += parts[i];
        }
        return (int) Rests.rest(sum);
    }

    public int squares(int s, int n) {
        if (s < 1 || s > TOP_SQUARES || n < 0 || n >= SQUARE_PLACES) {
            return refuse(NO);
        }
        for (int m = 0; m <= n; m++) {
            ways[m] = m == 0 ? 1 : 0;
        }
        for (int square = 0; square < s; square++) {
            takeOneSquareMore(n);
        }
        return ways[n];
    }

    public int count() {
        return held;
    }

    // ---- rows

    public int lay(int f, int n) {
        if (!isForm(f)) {
            return refuse(BEYOND);
        }
        if (n < 0) {
            return refuse(BELOW);
        }
        if (n > PLACES) {
            return refuse(NO);
        }
        System.arraycopy(forms[f].numbers, 0, theRow, 0, n);
        rowLength = n;
        return n;
    }

    public int tell(int i, int v) {
        if (rowLength == NONE) {
            return refuse(MISSING);
        }
        if (i < 0 || i >= rowLength) {
            return refuse(BEYOND);
        }
        long before = theRow[i];
        theRow[i] = Rests.rest(v);
        return theRow[i] != before ? 1 : 0;
    }

    public int give(int k) {
        if (rowLength == NONE) {
            return refuse(MISSING);
        }
        if (!isWeight(k) || rowLength < bases.sizeOf(k)) {
            return refuse(NO);
        }
        if (!hasRoom(k)) {
            return refuse(FULL);
        }
        bases.findParts(k, theRow, parts);
        bases.join(k, parts, forms[held].numbers);
        return comeOfOthers(k);
    }

    public int tear() {
        int was = rowLength == NONE ? 0 : 1;
        rowLength = NONE;
        return was;
    }

    public int row(int i) {
        if (rowLength == NONE) {
            return refuse(MISSING);
        }
        if (i < 0 || i >= rowLength) {
            return refuse(BEYOND);
        }
        return (int) theRow[i];
    }

    public int copy(int i, int j, int n) {
        if (rowLength == NONE) {
            return refuse(MISSING);
        }
        if (n < 0) {
            return refuse(BELOW);
        }
        // i + n could pass the largest int; rowLength - n can't, as both are 0 or more.
        if (i < 0 || j < 0 || i > rowLength - n || j > rowLength - n) {
            return refuse(COPY);
        }
        System.arraycopy(theRow, i, theRow, j, n);
        return n;
    }

    public int status(int by) {
        return isRefusal(by) ? refusals[-by] : refuse(NO);
    }

    // ---- what the calls have in common

    private int refuse(int by) {
        if (isRefusal(by)) {
            refusals[-by]++;
        }
        return by;
    }

    private static boolean isRefusal(int by) {
        return by <= MISSING && by >= FULL;
    }

    private boolean isForm(int f) {
        return f >= 0 && f < held;
    }

    private static boolean isWeight(int k) {
        return k >= 0 && k <= TOP_WEIGHT && k % 2 == 0;
    }

    private static boolean isPrime(int p) {
        return p == 2 || p == 3 || p == 5 || p == 7 || p == 11;
    }

    private boolean hasRoom(int weight) {
        return held < ROOM && weight <= TOP_WEIGHT;
    }

    private static int sumsIndex(int k) {
        for (int which = 0; which < SUMS_WEIGHTS.length; which++) {
            if (SUMS_WEIGHTS[which] == k) {
                return which;
            }
        }
        return NONE;
    }

    /** The FORM whose numbers stand at forms[held] comes; only behind hasRoom. */
    private int comeAsTold(int kind, int weight, int told) {
        Form form = forms[held];
        form.kind = kind;
        form.weight = weight;
        form.told = told;
        held++;
        return held - 1;
    }

    private int comeOfOthers(int weight) {
        int kind = weight == 0 ? CONST : forms[held].numbers[0] == 0 ? CUSP : EVEN;
        return comeAsTold(kind, weight, 0);
    }

    /** From the greatest place down, so that the places below still tell the ways with one square less. */
    private void takeOneSquareMore(int top) {
        for (int m = top; m > 0; m--) {
            int more = 0;
            for (int root = 1; root * root <= m; root++) {
                more += ways[m - root * root];
            }
            ways[m] += 2 * more;
        }
    }

    /** Numbers by rests of M. */
    private static final class Rests {
        static long rest(long x) {
            return Math.floorMod(x, M);
        }

        static long raised(long base, int e) {
            long answer = 1;
            for (int bit = 30; bit >= 0; bit--) {
                answer = answer * answer % M;
                if ((e >> bit & 1) == 1) {
                    answer = answer * base % M;
                }
            }
            return answer;
        }

        /** b to the M - 2 is 1 / b, M being a prime. */
        static long quotient(long a, long b) {
            return rest(a) * raised(rest(b), (int) M - 2) % M;
        }
    }

    /** Rows of 48 numbers, and what is done with them. */
    private static final class Series {
        /** From the greatest place down: a place needs none above it, so that the answer may stand where a or b does. */
        static void multiply(long[] a, long[] b, long[] answer) {
            for (int n = PLACES - 1; n >= 0; n--) {
                long sum = 0;
                for (int i = 0; i <= n; i++) {
                    sum += a[i] * b[n - i];
                }
                answer[n] = sum % M;
            }
        }

        /** e below 32; the answer may not stand where the base does. */
        static void raise(long[] base, int e, long[] answer) {
            putOne(answer);
            for (int bit = 4; bit >= 0; bit--) {
                multiply(answer, answer, answer);
                if ((e >> bit & 1) == 1) {
                    multiply(answer, base, answer);
                }
            }
        }

        static void putOne(long[] answer) {
            for (int n = 0; n < PLACES; n++) {
                answer[n] = n == 0 ? 1 : 0;
            }
        }

        /** 1, and behind it the factor times the sums of the divisors' powers. */
        static void putSums(long factor, int power, long[] answer) {
            putOne(answer);
            for (int d = 1; d < PLACES; d++) {
                long share = factor * Rests.raised(d, power) % M;
                for (int n = d; n < PLACES; n += d) {
                    answer[n] = (answer[n] + share) % M;
                }
            }
        }

        static long[] newSums(long factor, int power) {
            long[] answer = new long[PLACES];
            putSums(factor, power, answer);
            return answer;
        }

        /** D: the product of all 1 - q^n to the 24, moved on by one place. */
        static long[] newD() {
            long[] once = new long[PLACES];
            putOne(once);
            for (int n = 1; n < PLACES; n++) {
                for (int i = PLACES - 1; i >= n; i--) {
                    once[i] = Rests.rest(once[i] - once[i - n]);
                }
            }
            long[] answer = new long[PLACES];
            raise(once, 24, answer);
            System.arraycopy(answer, 0, answer, 1, PLACES - 1);
            answer[0] = 0;
            return answer;
        }

        static int leastPlace(long[] a) {
            for (int n = 0; n < PLACES; n++) {
                if (a[n] != 0) {
                    return n;
                }
            }
            return NONE;
        }

        static int firstUnlike(long[] a, long[] b) {
            for (int n = 0; n < PLACES; n++) {
                if (a[n] != b[n]) {
                    return n;
                }
            }
            return NONE;
        }

        /** The number L for which b is L times a at the places below size; NONE: there is none, or a is all 0. */
        static int ratio(long[] b, long[] a, int size) {
            int least = leastPlace(a);
            if (least == NONE || least >= size) {
                return NONE;
            }
            long ratio = Rests.quotient(b[least], a[least]);
            for (int n = 0; n < size; n++) {
                if (b[n] != ratio * a[n] % M) {
                    return NONE;
                }
            }
            return (int) ratio;
        }
    }

    /** A place for one FORM, used again when the FORM has gone. */
    private static final class Form {
        final long[] numbers = new long[PLACES];
        int weight;
        int kind;
        int told;

        /** k f g' - l f' g, gathered: f(i) g(j) comes k j - l i times. */
        static void putBracket(Form f, Form g, long[] answer) {
            for (int n = 0; n < PLACES; n++) {
                long sum = 0;
                for (int i = 0; i <= n; i++) {
                    int j = n - i;
                    sum += f.numbers[i] * g.numbers[j] % M * (f.weight * j - g.weight * i);
                }
                answer[n] = Rests.rest(sum);
            }
        }
    }

    /** E2, D, and the BASIS of each WEIGHT, made when a call first needs it: most runs need few. */
    private static final class Bases {
        final long[] e2 = Series.newSums(Rests.rest(-24), 1);
        final long[] d = Series.newD();
        private final long[] e4 = Series.newSums(240, 3);
        private final long[] e6 = Series.newSums(Rests.rest(-504), 5);
        private final int[] sizes = new int[TOP_WEIGHT / 2 + 1];
        private final int[] firsts = new int[TOP_WEIGHT / 2 + 1];
        private final long[][] rows;
        private int nextWeight;

        Bases() {
            int all = 0;
            for (int half = 0; half < sizes.length; half++) {
                firsts[half] = all;
                sizes[half] = countSize(2 * half);
                all += sizes[half];
            }
            rows = new long[all][PLACES];
        }

        /** 4 a + 6 b with b 0 or 1 is every even number from 0 on but 2. */
        private static int countSize(int weight) {
            int found = 0;
            for (int left = weight; left >= 0; left -= PRODUCT_WEIGHT) {
                if (left != 2) {
                    found++;
                }
            }
            return found;
        }

        int sizeOf(int weight) {
            return sizes[weight / 2];
        }

        /** BASIS i of a WEIGHT, i below its SIZE; not to be changed. */
        long[] rowOf(int weight, int i) {
            for (int w = nextWeight; w <= weight; w += 2) {
                makeRows(w);
            }
            nextWeight = Math.max(nextWeight, weight + 2);
            return rows[firsts[weight / 2] + i];
        }

        /** Each row is one of a lesser WEIGHT times D, or times E4 where i is 0; those are made by then. */
        private void makeRows(int weight) {
            int first = firsts[weight / 2];
            for (int i = 0; i < sizeOf(weight); i++) {
                if (i > 0) {
                    Series.multiply(d, rows[firsts[(weight - PRODUCT_WEIGHT) / 2] + i - 1], rows[first + i]);
                } else if (weight == 0) {
                    Series.putOne(rows[first]);
                } else if (weight == 6) {
                    System.arraycopy(e6, 0, rows[first], 0, PLACES);
                } else {
                    Series.multiply(e4, rows[firsts[(weight - 4) / 2]], rows[first]);
                }
            }
        }

        /** The PARTS of the FORM that has these numbers at places below SIZE: SIZE of them, what is behind stays. */
        void findParts(int weight, long[] numbers, long[] parts) {
            for (int i = 0; i < sizeOf(weight); i++) {
                long left = numbers[i];
                for (int j = 0; j < i; j++) {
                    left -= parts[j] * rowOf(weight, j)[i];
                }
                parts[i] = Rests.rest(left);
            }
        }

        /** The FORM that has these PARTS. */
        void join(int weight, long[] parts, long[] answer) {
            for (int n = 0; n < PLACES; n++) {
                long sum = 0;
                for (int i = 0; i < sizeOf(weight); i++) {
                    sum += parts[i] * rowOf(weight, i)[n];
                }
                answer[n] = sum % M;
            }
        }

        /** The first numbers, at places below SIZE, of what a PRIME does; SIZE is 4 and p 11 at most: places to 33. */
        void putImage(int weight, long[] a, int p, long[] answer) {
            long factor = Rests.raised(p, weight - 1);
            for (int n = 0; n < sizeOf(weight); n++) {
                long more = n % p == 0 ? factor * a[n / p] : 0;
                answer[n] = (a[p * n] + more) % M;
            }
        }
    }
}
