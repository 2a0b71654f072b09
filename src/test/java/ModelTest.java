import java.util.ArrayList;
import java.util.List;
import java.util.Random;

/**
 * Runs of calls by a fixed seed, beside a model that holds each FORM another way: as a polynomial in SUMS 4 and
 * SUMS 6, with D = (SUMS 4 to the 3 less SUMS 6 to the 2) / 1728, the slopes of the two as known from books, and
 * unknown FORMS found by solving equations.
 */
public final class ModelTest {
    static final long M = 1000003;
    static final int RUNS = 1500;
    static final int CALLS = 512;
    static final String[] NAMES = {"sums", "product", "add", "times", "power", "slope", "bracket", "over", "prime", "basis",
        "drop", "look", "at", "part", "same", "apart", "size", "own", "trace", "squares",
        "count", "lay", "tell", "give", "tear", "row", "copy", "status"};

    public static void main(String[] args) {
        int wrong = 0;
        int[] answered = new int[NAMES.length];
        for (int run = 0; run < RUNS && wrong < 10; run++) {
            Random random = new Random(run);
            FormSeries x = new FormSeries();
            Model model = new Model();
            List<String> told = new ArrayList<>();
            for (int call = 0; call < CALLS; call++) {
                int[] a = arguments(random, model);
                int want = model.call(a);
                int got = call(x, a);
                told.add(NAMES[a[0]] + "(" + a[1] + ", " + a[2] + ", " + a[3] + ", " + a[4] + ") " + got);
                if (want >= -1) answered[a[0]]++;
                if (got != want) {
                    wrong++;
                    System.out.println("run " + run + ", call " + call + ": " + told.get(call) + ", due is " + want);
                    break;
                }
            }
        }
        for (int i = 0; i < NAMES.length; i++) {
            if (answered[i] < RUNS) {
                wrong++;
                System.out.println(NAMES[i] + " was seldom answered: " + answered[i]);
            }
        }
        System.out.println(wrong == 0 ? "all runs are as the model has them" : wrong + " runs are not as the model has them");
        if (wrong != 0) System.exit(1);
    }

    static int call(FormSeries x, int[] a) {
        switch (NAMES[a[0]]) {
            case "sums": return x.sums(a[1]);
            case "product": return x.product(a[1]);
            case "add": return x.add(a[1], a[2], a[3], a[4]);
            case "times": return x.times(a[1], a[2]);
            case "power": return x.power(a[1], a[2]);
            case "slope": return x.slope(a[1]);
            case "bracket": return x.bracket(a[1], a[2]);
            case "over": return x.over(a[1]);
            case "prime": return x.prime(a[1], a[2]);
            case "basis": return x.basis(a[1], a[2]);
            case "drop": return x.drop();
            case "look": return x.look(a[1], a[2]);
            case "at": return x.at(a[1], a[2]);
            case "part": return x.part(a[1], a[2]);
            case "same": return x.same(a[1], a[2]);
            case "apart": return x.apart(a[1], a[2]);
            case "size": return x.size(a[1]);
            case "own": return x.own(a[1], a[2]);
            case "trace": return x.trace(a[1], a[2], a[3] > 0);
            case "squares": return x.squares(a[1], a[2]);
            case "count": return x.count();
            case "lay": return x.lay(a[1], a[2]);
            case "tell": return x.tell(a[1], a[2]);
            case "give": return x.give(a[1]);
            case "tear": return x.tear();
            case "row": return x.row(a[1]);
            case "copy": return x.copy(a[1], a[2], a[3]);
            default: return x.status(a[1]);
        }
    }

    // ---- arguments, mostly such as are answered

    static int[] arguments(Random r, Model m) {
        int which = r.nextInt(NAMES.length);
        if (m.forms.size() == 16 && r.nextInt(3) > 0) which = 10;
        String name = NAMES[which];
        int f = form(r, m), g = form(r, m);
        int[] a = {which, f, g, 0, 0};
        switch (name) {
            case "sums": a[1] = near(r, 4, 14) & ~r.nextInt(2); break;
            case "product": a[1] = near(r, 1, 3); break;
            case "add": a = new int[] {which, f, number(r), r.nextInt(3) > 0 ? like(r, m, f) : g, number(r)}; break;
            case "power": a[2] = r.nextBoolean() ? near(r, 0, 20) : r.nextInt(4); break;
            case "over": a[1] = r.nextBoolean() ? f : cusp(r, m, f); break;
            case "prime": case "own": a[2] = prime(r); break;
            case "basis": a[1] = weight(r); a[2] = near(r, 0, 3); break;
            case "look": a[2] = near(r, 0, 4); break;
            case "at": a[2] = near(r, 0, 47); break;
            case "part": a[2] = near(r, 0, 3); break;
            case "same": case "apart": a[2] = r.nextBoolean() ? like(r, m, f) : g; break;
            case "size": case "give": a[1] = weight(r); break;
            case "trace": a = new int[] {which, weight(r), prime(r), r.nextInt(2), 0}; break;
            case "squares": a[1] = near(r, 1, 8); a[2] = near(r, 0, 99); break;
            case "lay": a[2] = r.nextBoolean() ? near(r, 0, 48) : r.nextInt(6); break;
            case "tell": a[1] = place(r, m); a[2] = r.nextInt(4) == 0 ? 0 : number(r); break;
            case "tear": if (r.nextInt(3) > 0) a[0] = 20; break;
            case "row": a[1] = place(r, m); break;
            case "copy": a = new int[] {which, place(r, m), place(r, m), r.nextBoolean() ? place(r, m) : r.nextInt(4), 0}; break;
            case "status": a[1] = near(r, -8, -2); break;
            default: break;
        }
        return a;
    }

    static int wild(Random r) {
        int[] some = {-1, -2, Integer.MIN_VALUE, Integer.MAX_VALUE, 1000003, 1 << 30, 49, 100};
        return r.nextBoolean() ? some[r.nextInt(some.length)] : r.nextInt();
    }

    static int near(Random r, int low, int high) {
        int dice = r.nextInt(40);
        if (dice == 0) return wild(r);
        if (dice == 1) return low - 1;
        if (dice == 2) return high + 1;
        return low + r.nextInt(high - low + 1);
    }

    static int form(Random r, Model m) {
        return near(r, 0, Math.max(0, m.forms.size() - 1));
    }

    static int place(Random r, Model m) {
        return near(r, 0, m.row == null ? 0 : Math.max(0, m.row.length - 1));
    }

    static int like(Random r, Model m, int f) {
        if (f < 0 || f >= m.forms.size()) return f;
        for (int tries = 0; tries < 20; tries++) {
            int g = r.nextInt(m.forms.size());
            if (m.forms.get(g).weight == m.forms.get(f).weight) return g;
        }
        return f;
    }

    static int cusp(Random r, Model m, int f) {
        for (int i = 0; i < m.forms.size(); i++) {
            int g = (i + Math.abs(f % 16)) % m.forms.size();
            if (m.forms.get(g).series[0] == 0 && m.forms.get(g).weight >= 12) return g;
        }
        return f;
    }

    static int weight(Random r) {
        return r.nextInt(20) == 0 ? near(r, -3, 44) : 2 * near(r, 0, 20);
    }

    static int prime(Random r) {
        return r.nextInt(12) == 0 ? near(r, -3, 13) : new int[] {2, 3, 5, 7, 11}[r.nextInt(5)];
    }

    static int number(Random r) {
        int dice = r.nextInt(6);
        return dice == 0 ? 0 : dice == 1 ? 1 : dice == 2 ? -1 : dice == 3 ? wild(r) : r.nextInt();
    }

    // ---- polynomials

    static long rest(long x) {
        x %= M;
        return x < 0 ? x + M : x;
    }

    /** Euclid's way. */
    static long inverse(long b) {
        long u = M, v = rest(b), p = 0, q = 1;
        while (v != 0) {
            long t = u / v;
            long w = u - t * v;
            u = v;
            v = w;
            w = p - t * q;
            p = q;
            q = w;
        }
        return rest(p);
    }

    static long divisorSum(int k, int n) {
        long sum = 0;
        for (int d = 1; d <= n; d++) {
            if (n % d != 0) continue;
            long power = 1;
            for (int i = 0; i < k; i++) power = power * d % M;
            sum += power;
        }
        return sum % M;
    }

    static long[] multiplied(long[] a, long[] b) {
        long[] c = new long[48];
        for (int i = 0; i < 48; i++) for (int j = 0; i + j < 48; j++) c[i + j] = rest(c[i + j] + a[i] * b[j]);
        return c;
    }

    /** The series of SUMS 4 to the a times SUMS 6 to the b. */
    static final long[][][] MONOMIALS = monomials();

    static long[][][] monomials() {
        long[] four = new long[48], six = new long[48], one = new long[48];
        one[0] = four[0] = six[0] = 1;
        for (int n = 1; n < 48; n++) {
            four[n] = rest(240 * divisorSum(3, n));
            six[n] = rest(-504 * divisorSum(5, n));
        }
        long[][][] all = new long[11][7][];
        for (int a = 0; a <= 10; a++) {
            for (int b = 0; b <= 6; b++) {
                all[a][b] = a > 0 ? multiplied(all[a - 1][b], four) : b > 0 ? multiplied(all[0][b - 1], six) : one;
            }
        }
        return all;
    }

    /** c[b] times SUMS 4 to the a times SUMS 6 to the b, with 4 a + 6 b the weight. */
    static final class Poly {
        final int weight;
        final long[] c = new long[7];
        long[] series;
        int kind;
        int told;

        Poly(int weight) {
            this.weight = weight;
        }

        static int fours(int weight, int b) {
            int left = weight - 6 * b;
            return left >= 0 && left % 4 == 0 ? left / 4 : -1;
        }

        static Poly of(int weight, long... c) {
            Poly p = new Poly(weight);
            for (int b = 0; b < c.length; b++) p.c[b] = rest(c[b]);
            return p.expanded();
        }

        Poly expanded() {
            series = new long[48];
            for (int b = 0; b < 7; b++) {
                int a = fours(weight, b);
                if (a < 0) {
                    if (c[b] != 0) throw new IllegalStateException("no such monomial: " + weight + " " + b);
                    continue;
                }
                for (int n = 0; n < 48; n++) series[n] = rest(series[n] + c[b] * MONOMIALS[a][b][n]);
            }
            kind = weight == 0 ? 3 : series[0] == 0 ? 4 : 0;
            return this;
        }

        Poly times(Poly g) {
            Poly p = new Poly(weight + g.weight);
            for (int i = 0; i < 7; i++) for (int j = 0; i + j < 7; j++) p.c[i + j] = rest(p.c[i + j] + c[i] * g.c[j]);
            return p.expanded();
        }

        Poly plus(long x, Poly g, long y) {
            Poly p = new Poly(weight);
            for (int b = 0; b < 7; b++) p.c[b] = rest(rest(x) * c[b] + rest(y) * g.c[b]);
            return p.expanded();
        }

        Poly power(int e) {
            Poly p = of(0, 1);
            for (int i = 0; i < e; i++) p = p.times(this);
            return p;
        }

        /** SUMS 4 has the slope - SUMS 6 / 3, SUMS 6 has - SUMS 4 squared / 2. */
        Poly slope() {
            Poly p = new Poly(weight + 2);
            for (int b = 0; b < 7; b++) {
                int a = fours(weight, b);
                if (a > 0) p.c[b + 1] = rest(p.c[b + 1] - c[b] * a % M * inverse(3));
                if (a >= 0 && b > 0) p.c[b - 1] = rest(p.c[b - 1] - c[b] * b % M * inverse(2));
            }
            return p.expanded();
        }

        /** The E2 in both slopes goes out. */
        Poly bracket(Poly g) {
            return times(g.slope()).plus(weight, slope().times(g), -g.weight);
        }

        Poly over() {
            Poly p = new Poly(weight - 12);
            for (int b = 0; b < 7; b++) {
                if (fours(weight - 12, b) >= 0) p.c[b] = rest(1728 * c[b] + (b > 1 ? p.c[b - 2] : 0));
            }
            return p.expanded();
        }

        boolean isNought() {
            for (long x : c) if (x != 0) return false;
            return true;
        }
    }

    static final Poly FOUR = Poly.of(4, 1);
    static final Poly SIX = Poly.of(6, 0, 1);
    static final Poly D = FOUR.power(3).plus(inverse(1728), SIX.power(2), -inverse(1728));

    static int sizeOf(int k) {
        int size = 0;
        for (int i = 0; 12 * i <= k; i++) {
            boolean there = false;
            for (int b = 0; b <= 1; b++) there |= Poly.fours(k - 12 * i, b) >= 0;
            if (there) size++;
        }
        return size;
    }

    static final Poly[][] BASES = new Poly[41][4];

    static Poly basisOf(int k, int i) {
        if (BASES[k][i] == null) {
            int b = Poly.fours(k - 12 * i, 0) >= 0 ? 0 : 1;
            BASES[k][i] = D.power(i).times(FOUR.power(Poly.fours(k - 12 * i, b))).times(SIX.power(b));
        }
        return BASES[k][i];
    }

    /** The NUMBERS x for which x[0] times rows[0], .. has these numbers at its first places. */
    static long[] solved(long[][] rows, long[] numbers) {
        int size = rows.length;
        long[][] e = new long[size][size + 1];
        for (int n = 0; n < size; n++) {
            for (int i = 0; i < size; i++) e[n][i] = rows[i][n];
            e[n][size] = numbers[n];
        }
        for (int i = 0; i < size; i++) {
            int pivot = i;
            while (e[pivot][i] == 0) pivot++;
            long[] swap = e[pivot];
            e[pivot] = e[i];
            e[i] = swap;
            long by = inverse(e[i][i]);
            for (int j = 0; j <= size; j++) e[i][j] = e[i][j] * by % M;
            for (int n = 0; n < size; n++) {
                long times = e[n][i];
                if (n == i) continue;
                for (int j = 0; j <= size; j++) e[n][j] = rest(e[n][j] - times * e[i][j]);
            }
        }
        long[] x = new long[size];
        for (int i = 0; i < size; i++) x[i] = e[i][size];
        return x;
    }

    static Poly found(int k, long[] numbers) {
        List<Integer> sixes = new ArrayList<>();
        for (int b = 0; b < 7; b++) if (Poly.fours(k, b) >= 0) sixes.add(b);
        long[][] rows = new long[sixes.size()][];
        for (int i = 0; i < rows.length; i++) rows[i] = MONOMIALS[Poly.fours(k, sixes.get(i))][sixes.get(i)];
        long[] x = solved(rows, numbers);
        Poly p = new Poly(k);
        for (int i = 0; i < x.length; i++) p.c[sixes.get(i)] = x[i];
        return p.expanded();
    }

    static long[] partsOf(Poly f) {
        long[][] rows = new long[sizeOf(f.weight)][];
        for (int i = 0; i < rows.length; i++) rows[i] = basisOf(f.weight, i).series;
        return solved(rows, f.series);
    }

    /** What p does, looked at in all places that 48 NUMBERS tell. */
    static Poly done(Poly f, int p) {
        long power = 1;
        for (int i = 1; i < f.weight; i++) power = power * p % M;
        long[] numbers = new long[48 / p + 1];
        for (int n = 0; n * p < 48; n++) numbers[n] = rest(f.series[n * p] + (n % p == 0 ? power * f.series[n / p] : 0));
        Poly g = found(f.weight, numbers);
        for (int n = 0; n * p < 48; n++) if (g.series[n] != numbers[n]) throw new IllegalStateException("no FORM comes of it");
        return g;
    }

    // ---- the bench

    static final class Model {
        final List<Poly> forms = new ArrayList<>();
        long[] row;
        final int[] refused = new int[9];

        int call(int[] a) {
            int answer = answer(NAMES[a[0]], a[1], a[2], a[3], a[4]);
            if (answer <= -2) refused[-answer]++;
            return answer;
        }

        boolean is(int f) {
            return f >= 0 && f < forms.size();
        }

        static boolean isWeight(int k) {
            return k >= 0 && k <= 40 && k % 2 == 0;
        }

        static boolean isPrime(int p) {
            return p == 2 || p == 3 || p == 5 || p == 7 || p == 11;
        }

        boolean full(int weight) {
            return forms.size() == 16 || weight > 40;
        }

        int come(Poly p) {
            forms.add(p);
            return forms.size() - 1;
        }

        int come(Poly p, int kind, int told) {
            Poly q = Poly.of(p.weight, p.c);
            q.kind = kind;
            q.told = told;
            return come(q);
        }

        int answer(String name, int a, int b, int c, int d) {
            switch (name) {
                case "sums": case "product": case "basis": case "give": return fresh(name, a, b);
                case "add": case "times": case "bracket": case "same": case "apart": return two(name, a, b, c, d);
                case "power": case "slope": case "over": case "prime": case "own": return one(name, a, b);
                case "look": case "at": case "part": return told(name, a, b);
                case "lay": case "tell": case "tear": case "row": case "copy": return rows(name, a, b, c);
                case "drop":
                    if (forms.isEmpty()) return -2;
                    forms.remove(forms.size() - 1);
                    return forms.size();
                case "size": return isWeight(a) ? sizeOf(a) : -7;
                case "trace": return trace(a, b, c > 0);
                case "squares": return a < 1 || a > 8 || b < 0 || b > 99 ? -7 : SQUARES[a][b];
                case "count": return forms.size();
                default: return a >= -8 && a <= -2 ? refused[-a] : -7;
            }
        }

        int fresh(String name, int a, int i) {
            if (name.equals("sums")) {
                if (a < 4 || a > 14 || a % 2 != 0) return -7;
                if (full(a)) return -8;
                Poly p = a == 12 ? FOUR.power(3).plus(441 * inverse(691), SIX.power(2), 250 * inverse(691)) : basisOf(a, 0);
                return come(p, 1, a);
            }
            if (name.equals("product")) {
                if (a < 1 || a > 3) return -7;
                if (full(12 * a)) return -8;
                return come(D.power(a), 2, a);
            }
            if (name.equals("basis")) {
                if (!isWeight(a)) return -7;
                if (i < 0 || i >= sizeOf(a)) return -3;
                return full(a) ? -8 : come(basisOf(a, i));
            }
            if (row == null) return -2;
            if (!isWeight(a) || row.length < sizeOf(a)) return -7;
            return full(a) ? -8 : come(found(a, row));
        }

        int two(String name, int a, int b, int c, int d) {
            int second = name.equals("add") ? c : b;
            if (!is(a) || !is(second)) return -3;
            Poly f = forms.get(a), g = forms.get(second);
            boolean unlike = f.weight != g.weight;
            switch (name) {
                case "add": return unlike ? -7 : full(f.weight) ? -8 : come(f.plus(b, g, d));
                case "times": return full(f.weight + g.weight) ? -8 : come(f.times(g));
                case "bracket": return full(f.weight + g.weight + 2) ? -8 : come(f.bracket(g));
                case "same":
                    if (unlike) return f.isNought() && g.isNought() ? 1 : 0;
                    for (int i = 0; i < 7; i++) if (f.c[i] != g.c[i]) return 0;
                    return 1;
                default:
                    if (unlike) return -7;
                    for (int n = 0; n < 48; n++) if (f.series[n] != g.series[n]) return n;
                    return -1;
            }
        }

        int one(String name, int a, int b) {
            if (!is(a)) return -3;
            Poly f = forms.get(a);
            switch (name) {
                case "power":
                    if (b < 0) return -4;
                    if (b > 20) return -7;
                    return full(f.weight * b) ? -8 : come(f.power(b));
                case "slope": return full(f.weight + 2) ? -8 : come(f.slope());
                case "over": return f.weight < 12 || f.series[0] != 0 ? -7 : full(0) ? -8 : come(f.over());
                case "prime": return !isPrime(b) || f.weight < 4 ? -7 : full(0) ? -8 : come(done(f, b));
                default: return !isPrime(b) || f.weight < 4 ? -7 : own(f, done(f, b));
            }
        }

        static int own(Poly f, Poly g) {
            for (int i = 0; i < 7; i++) {
                if (f.c[i] == 0) continue;
                long l = g.c[i] * inverse(f.c[i]) % M;
                for (int j = 0; j < 7; j++) if (g.c[j] != l * f.c[j] % M) return -1;
                return (int) l;
            }
            return -1;
        }

        int told(String name, int a, int b) {
            if (!is(a)) return -3;
            Poly f = forms.get(a);
            if (name.equals("at")) return b < 0 || b > 47 ? -3 : (int) f.series[b];
            if (name.equals("part")) return b < 0 || b >= sizeOf(f.weight) ? -3 : (int) partsOf(f)[b];
            switch (b) {
                case 0: return f.kind;
                case 1: return f.weight;
                case 2:
                    for (int n = 0; n < 48; n++) if (f.series[n] != 0) return n;
                    return -1;
                case 3: return sizeOf(f.weight);
                case 4: return f.kind == 1 || f.kind == 2 ? f.told : -5;
                default: return -7;
            }
        }

        static int trace(int k, int p, boolean cusp) {
            if (!isWeight(k) || k < 4 || !isPrime(p)) return -7;
            long sum = 0;
            for (int i = cusp ? 1 : 0; i < sizeOf(k); i++) sum += partsOf(done(basisOf(k, i), p))[i];
            return (int) rest(sum);
        }

        int rows(String name, int a, int b, int c) {
            if (name.equals("lay")) {
                if (!is(a)) return -3;
                if (b < 0) return -4;
                if (b > 48) return -7;
                row = java.util.Arrays.copyOf(forms.get(a).series, b);
                return b;
            }
            if (name.equals("tear")) {
                int was = row == null ? 0 : 1;
                row = null;
                return was;
            }
            if (row == null) return -2;
            if (name.equals("copy")) {
                if (c < 0) return -4;
                if (a < 0 || b < 0 || (long) a + c > row.length || (long) b + c > row.length) return -6;
                long[] was = row.clone();
                for (int i = 0; i < c; i++) row[b + i] = was[a + i];
                return c;
            }
            if (a < 0 || a >= row.length) return -3;
            if (name.equals("row")) return (int) row[a];
            long before = row[a];
            row[a] = rest(b);
            return row[a] == before ? 0 : 1;
        }
    }

    static final int[][] SQUARES = squareTable();

    static int[][] squareTable() {
        int[][] table = new int[9][100];
        table[0][0] = 1;
        for (int s = 1; s <= 8; s++) {
            for (int n = 0; n < 100; n++) {
                for (int x = -10; x <= 10; x++) if (x * x <= n) table[s][n] += table[s - 1][n - x * x];
            }
        }
        return table;
    }
}
