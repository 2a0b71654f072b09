/** Each promise of the document by itself: ordinary inputs, the edges that it names, wrong inputs. */
public final class PromiseTest {
    private static final int NONE = -1, MISSING = -2, BEYOND = -3, BELOW = -4, KIND = -5, COPY = -6, NO = -7, FULL = -8;
    private static final int EVEN = 0, SUMS = 1, PRODUCT = 2, CONST = 3, CUSP = 4;
    private static final int M = 1000003;
    private static final int[] WRONG_FORMS = {-1, 16, 99, Integer.MAX_VALUE, Integer.MIN_VALUE};
    private static int wrong = 0;
    private static int promise = 0;

    private static void due(String call, int got, long want) {
        if (got != want) {
            wrong++;
            System.out.println("promise " + promise + ": " + call + " answered " + got + ", due is " + want);
        }
    }

    private static int rest(long x) {
        return (int) Math.floorMod(x, (long) M);
    }

    /** 16 FORMS: no room. */
    private static FormSeries full() {
        FormSeries x = new FormSeries();
        for (int i = 0; i < 16; i++) {
            due("sums(4) of full", x.sums(4), i);
        }
        return x;
    }

    private static void dueNumbers(FormSeries x, int f, long... numbers) {
        for (int n = 0; n < numbers.length; n++) {
            due("at(" + f + ", " + n + ")", x.at(f, n), rest(numbers[n]));
        }
    }

    private static void dueForm(FormSeries x, int f, int kind, int weight) {
        due("look(" + f + ", 0)", x.look(f, 0), kind);
        due("look(" + f + ", 1)", x.look(f, 1), weight);
    }

    public static void main(String[] args) {
        newObject(); sums(); product(); add(); times(); power(); slope(); bracket(); over(); prime();
        basis(); drop(); look(); at(); part(); same(); apart(); size(); own(); trace();
        squares(); count(); lay(); tell(); give(); tear(); row(); copy(); status(); refusedChangesNothing();
        System.out.println(wrong == 0 ? "all promises are kept" : wrong + " answers are not as due");
        if (wrong != 0) System.exit(1);
    }

    private static void newObject() {
        promise = 1;
        FormSeries x = new FormSeries();
        due("count()", x.count(), 0);
        for (int by = FULL; by <= MISSING; by++) due("status(" + by + ")", x.status(by), 0);
        due("tear()", x.tear(), 0);
        due("at(0, 0)", x.at(0, 0), BEYOND);
        FormSeries y = new FormSeries();
        due("sums(4)", x.sums(4), 0);
        due("count() of another object", y.count(), 0);
    }

    private static void sums() {
        promise = 2;
        FormSeries x = new FormSeries();
        for (int k = 4; k <= 14; k += 2) {
            int f = (k - 4) / 2;
            due("sums(" + k + ")", x.sums(k), f);
            dueForm(x, f, SUMS, k);
            due("look(f, 4)", x.look(f, 4), k);
        }
        dueNumbers(x, 0, 1, 240, 2160, 6720, 17520, 30240, 60480);
        dueNumbers(x, 1, 1, -504, -16632, -122976, -532728);
        dueNumbers(x, 2, 1, 480, 61920, 1050240);
        dueNumbers(x, 3, 1, -264, -135432, -5196576);
        dueNumbers(x, 5, 1, -24, -196632, -38263776);
        due("691 times place 1 of SUMS 12", rest(691L * x.at(4, 1)), 65520);
        due("691 times place 2 of SUMS 12", rest(691L * x.at(4, 2)), rest(65520L * 2049));
        due("place 47 of SUMS 4", x.at(0, 47), rest(240L * (1 + 47L * 47 * 47)));
        for (int k : new int[] {0, 2, 3, 5, 13, 15, 16, -4, Integer.MAX_VALUE, Integer.MIN_VALUE}) due("sums(" + k + ")", x.sums(k), NO);
        due("count()", x.count(), 6);
        x = full();
        due("sums(4) in no room", x.sums(4), FULL);
        due("sums(5) in no room", x.sums(5), NO);
    }

    private static void product() {
        promise = 3;
        FormSeries x = new FormSeries();
        for (int e = 1; e <= 3; e++) {
            due("product(" + e + ")", x.product(e), e - 1);
            dueForm(x, e - 1, PRODUCT, 12 * e);
            due("look(f, 4)", x.look(e - 1, 4), e);
        }
        dueNumbers(x, 0, 0, 1, -24, 252, -1472, 4830, -6048, -16744, 84480, -113643, -115920, 534612);
        dueNumbers(x, 1, 0, 0, 1, -48, 1080, -15040);
        dueNumbers(x, 2, 0, 0, 0, 1, -72, 2484);
        for (int e : new int[] {0, 4, -1, Integer.MAX_VALUE, Integer.MIN_VALUE}) due("product(" + e + ")", x.product(e), NO);
        x = full();
        due("product(3) in no room", x.product(3), FULL);
        due("product(4) in no room", x.product(4), NO);
    }

    private static void add() {
        promise = 4;
        FormSeries x = new FormSeries();
        x.sums(12);
        x.product(1);
        x.sums(4);
        due("add", x.add(0, 3, 1, -5), 3);
        dueForm(x, 3, EVEN, 12);
        dueNumbers(x, 3, 3, 3L * x.at(0, 1) - 5, 3L * x.at(0, 2) + 120);
        due("add", x.add(1, 0, 1, 7), 4);
        dueForm(x, 4, CUSP, 12);
        dueNumbers(x, 4, 0, 7, -168);
        due("add", x.add(2, Integer.MIN_VALUE, 2, Integer.MIN_VALUE), 5);
        due("at", x.at(5, 0), rest(2L * Integer.MIN_VALUE));
        due("add", x.add(2, M, 2, -M), 6);
        dueForm(x, 6, CUSP, 4);
        due("look(6, 2)", x.look(6, 2), NONE);
        due("power", x.power(2, 0), 7);
        due("add", x.add(7, 2, 7, -2), 8);
        dueForm(x, 8, CONST, 0);
        due("add of unlike WEIGHTS", x.add(0, 1, 2, 1), NO);
        due("add of unlike WEIGHTS, 0 times", x.add(0, 1, 2, 0), NO);
        for (int f : WRONG_FORMS) {
            due("add", x.add(f, 1, 0, 1), BEYOND);
            due("add", x.add(0, 1, f, 1), BEYOND);
        }
        due("add", x.add(9, 1, 0, 1), BEYOND);
        due("count()", x.count(), 9);
        x = full();
        due("add in no room", x.add(0, 1, 0, 1), FULL);
        x.drop();
        x.sums(6);
        due("add of unlike WEIGHTS in no room", x.add(0, 1, 15, 1), NO);
        due("add", x.add(0, 1, 16, 1), BEYOND);
    }

    private static void times() {
        promise = 5;
        FormSeries x = new FormSeries();
        x.sums(4);
        x.sums(6);
        x.product(1);
        due("times", x.times(0, 1), 3);
        dueForm(x, 3, EVEN, 10);
        dueNumbers(x, 3, 1, -264, -135432);
        due("times", x.times(2, 0), 4);
        dueForm(x, 4, CUSP, 16);
        dueNumbers(x, 4, 0, 1, 216, -3348, 13888);
        due("times", x.times(4, 2), 5);
        due("times", x.times(5, 2), 6);
        dueForm(x, 6, CUSP, 40);
        due("look(6, 2)", x.look(6, 2), 3);
        due("times above WEIGHT 40", x.times(6, 0), FULL);
        x.basis(0, 0);
        due("times a CONST", x.times(6, 7), 8);
        due("same", x.same(6, 8), 1);
        due("times of CONST", x.times(7, 7), 9);
        dueForm(x, 9, CONST, 0);
        for (int f : WRONG_FORMS) {
            due("times", x.times(f, 0), BEYOND);
            due("times", x.times(6, f), BEYOND);
        }
        x = full();
        due("times in no room", x.times(0, 0), FULL);
        due("times in no room", x.times(0, 16), BEYOND);
    }

    private static void power() {
        promise = 6;
        FormSeries x = new FormSeries();
        x.sums(4);
        due("power", x.power(0, 2), 1);
        x.sums(8);
        due("same", x.same(1, 2), 1);
        dueForm(x, 1, EVEN, 8);
        due("power", x.power(0, 10), 3);
        dueForm(x, 3, EVEN, 40);
        due("at", x.at(3, 1), 2400);
        due("power above WEIGHT 40", x.power(0, 11), FULL);
        due("power", x.power(0, 20), FULL);
        due("power", x.power(0, 0), 4);
        dueForm(x, 4, CONST, 0);
        dueNumbers(x, 4, 1, 0, 0);
        due("power", x.power(0, 1), 5);
        dueForm(x, 5, EVEN, 4);
        due("same", x.same(0, 5), 1);
        x.add(4, 2, 4, 0);
        due("power", x.power(6, 20), 7);
        due("2 to the 20", x.at(7, 0), (1 << 20) - M);
        x.product(1);
        due("power", x.power(8, 3), 9);
        dueForm(x, 9, CUSP, 36);
        x.slope(4);
        due("power of WEIGHT 2", x.power(10, 20), 11);
        dueForm(x, 11, CUSP, 40);
        due("power of all 0", x.power(10, 0), 12);
        dueNumbers(x, 12, 1, 0);
        due("power", x.power(0, -1), BELOW);
        due("power", x.power(0, Integer.MIN_VALUE), BELOW);
        due("power", x.power(0, 21), NO);
        due("power", x.power(0, Integer.MAX_VALUE), NO);
        for (int f : WRONG_FORMS) due("power", x.power(f, -1), BEYOND);
        x = full();
        due("power in no room", x.power(0, 0), FULL);
        due("power in no room", x.power(0, 21), NO);
        due("power in no room", x.power(0, -1), BELOW);
    }

    private static void slope() {
        promise = 7;
        FormSeries x = new FormSeries();
        x.sums(4);
        x.sums(6);
        due("slope", x.slope(0), 2);
        dueForm(x, 2, EVEN, 6);
        due("-3 times", x.add(2, -3, 2, 0), 3);
        due("the slope of SUMS 4 is - SUMS 6 / 3", x.same(3, 1), 1);
        due("slope", x.slope(1), 4);
        x.add(4, -2, 4, 0);
        x.power(0, 2);
        due("the slope of SUMS 6 is - SUMS 4 squared / 2", x.same(5, 6), 1);
        x.product(1);
        due("slope", x.slope(7), 8);
        dueForm(x, 8, CUSP, 14);
        due("the slope of D is all 0", x.look(8, 2), NONE);
        x.power(0, 0);
        due("slope", x.slope(9), 10);
        dueForm(x, 10, CUSP, 2);
        x.basis(38, 0);
        due("slope", x.slope(11), 12);
        dueForm(x, 12, EVEN, 40);
        due("slope above WEIGHT 40", x.slope(12), FULL);
        for (int f : WRONG_FORMS) due("slope", x.slope(f), BEYOND);
        x = full();
        due("slope in no room", x.slope(0), FULL);
        due("slope in no room", x.slope(16), BEYOND);
    }

    private static void bracket() {
        promise = 8;
        FormSeries x = new FormSeries();
        x.sums(4);
        x.sums(6);
        x.product(1);
        due("bracket", x.bracket(0, 1), 3);
        dueForm(x, 3, CUSP, 12);
        x.add(2, -3456, 2, 0);
        due("the bracket of SUMS 4, 6 is -3456 D", x.same(3, 4), 1);
        due("bracket", x.bracket(1, 0), 5);
        x.add(2, 3456, 2, 0);
        due("it turns its sign", x.same(5, 6), 1);
        due("bracket", x.bracket(0, 0), 7);
        dueForm(x, 7, CUSP, 10);
        due("look(7, 2)", x.look(7, 2), NONE);
        x.power(0, 0);
        due("bracket", x.bracket(8, 1), 9);
        dueForm(x, 9, CUSP, 8);
        due("look(9, 2)", x.look(9, 2), NONE);
        x.basis(24, 0);
        x.basis(14, 0);
        x.basis(16, 0);
        due("bracket", x.bracket(10, 11), 13);
        dueForm(x, 13, CUSP, 40);
        due("bracket above WEIGHT 40", x.bracket(10, 12), FULL);
        for (int f : WRONG_FORMS) {
            due("bracket", x.bracket(f, 0), BEYOND);
            due("bracket", x.bracket(10, f), BEYOND);
        }
        x = full();
        due("bracket in no room", x.bracket(0, 0), FULL);
        due("bracket in no room", x.bracket(0, 16), BEYOND);
    }

    private static void over() {
        promise = 9;
        FormSeries x = new FormSeries();
        x.product(1);
        due("over", x.over(0), 1);
        dueForm(x, 1, CONST, 0);
        dueNumbers(x, 1, 1, 0, 0);
        x.basis(28, 0);
        x.times(2, 0);
        due("over", x.over(3), 4);
        due("it times D is f", x.same(2, 4), 1);
        due("its last place too", x.at(4, 47), x.at(2, 47));
        dueForm(x, 4, EVEN, 28);
        x.product(3);
        due("over", x.over(5), 6);
        dueForm(x, 6, CUSP, 24);
        x.sums(14);
        x.add(7, 0, 7, 0);
        due("over of all 0", x.over(8), 9);
        dueForm(x, 9, CUSP, 2);
        due("over of less than WEIGHT 12", x.over(9), NO);
        x.bracket(1, 1);
        due("over", x.over(1), NO);
        due("over of what has 1 ahead", x.over(7), NO);
        due("over of what has 1 ahead", x.over(2), NO);
        for (int f : WRONG_FORMS) due("over", x.over(f), BEYOND);
        x = full();
        due("over in no room", x.over(0), NO);
        x.drop();
        x.product(1);
        due("over in no room", x.over(15), FULL);
        due("over in no room", x.over(16), BEYOND);
    }

    private static void prime() {
        promise = 10;
        FormSeries x = new FormSeries();
        x.product(1);
        int[] primes = {2, 3, 5, 7, 11};
        long[] tau = {-24, 252, 4830, -16744, 534612};
        for (int i = 0; i < 5; i++) {
            due("prime", x.prime(0, primes[i]), i + 1);
            dueForm(x, i + 1, CUSP, 12);
            dueNumbers(x, i + 1, 0, tau[i], -24 * tau[i], 252 * tau[i]);
            due("place 47", x.at(i + 1, 47), rest(tau[i] * x.at(0, 47)));
        }
        x.basis(40, 1);
        for (int p : new int[] {2, 3}) {
            int f = x.prime(6, p);
            for (int n = 0; p * n < 48; n++) {
                long power = 1;
                for (int i = 0; i < 39; i++) power = power * p % M;
                due("at(f, " + n + ")", x.at(f, n), rest(x.at(6, p * n) + (n % p == 0 ? power * x.at(6, n / p) : 0)));
            }
        }
        x.sums(4);
        due("prime", x.prime(9, 3), 10);
        dueForm(x, 10, EVEN, 4);
        dueNumbers(x, 10, 28, 28 * 240, 28 * 2160);
        x.power(0, 0);
        for (int p : new int[] {0, 1, 4, 6, 9, 13, -2, Integer.MAX_VALUE, Integer.MIN_VALUE}) due("prime", x.prime(0, p), NO);
        due("prime of WEIGHT 0", x.prime(11, 2), NO);
        x.slope(11);
        due("prime of WEIGHT 2", x.prime(12, 2), NO);
        for (int f : WRONG_FORMS) due("prime", x.prime(f, 4), BEYOND);
        x = full();
        due("prime in no room", x.prime(0, 2), FULL);
        due("prime in no room", x.prime(0, 4), NO);
    }

    private static void basis() {
        promise = 11;
        for (int k = 0; k <= 40; k += 2) {
            FormSeries x = new FormSeries();
            int size = x.size(k);
            for (int i = 0; i < size; i++) {
                due("basis(" + k + ", " + i + ")", x.basis(k, i), i);
                dueForm(x, i, k == 0 ? CONST : i == 0 ? EVEN : CUSP, k);
                due("look(i, 2)", x.look(i, 2), i);
                due("at(i, i)", x.at(i, i), 1);
            }
            due("basis(" + k + ", SIZE)", x.basis(k, size), BEYOND);
            due("basis(" + k + ", -1)", x.basis(k, -1), BEYOND);
            due("basis", x.basis(k, Integer.MAX_VALUE), BEYOND);
            due("basis", x.basis(k, Integer.MIN_VALUE), BEYOND);
        }
        FormSeries x = new FormSeries();
        x.sums(4);
        x.sums(6);
        x.product(1);
        x.power(0, 2);
        x.times(3, 1);
        x.times(4, 2);
        due("basis", x.basis(26, 1), 6);
        due("D times SUMS 4 squared times SUMS 6", x.same(5, 6), 1);
        for (int k : new int[] {-2, -1, 1, 39, 41, 42, Integer.MAX_VALUE, Integer.MIN_VALUE}) {
            due("basis(" + k + ", 0)", x.basis(k, 0), NO);
            due("basis(" + k + ", -1)", x.basis(k, -1), NO);
        }
        x = full();
        due("basis in no room", x.basis(4, 0), FULL);
        due("basis in no room", x.basis(4, 1), BEYOND);
        due("basis in no room", x.basis(3, 0), NO);
    }

    private static void drop() {
        promise = 12;
        FormSeries x = new FormSeries();
        due("drop()", x.drop(), MISSING);
        x.sums(4);
        x.product(2);
        due("drop()", x.drop(), 1);
        due("look(1, 0)", x.look(1, 0), BEYOND);
        due("at", x.at(0, 1), 240);
        due("sums", x.sums(6), 1);
        dueForm(x, 1, SUMS, 6);
        due("drop()", x.drop(), 1);
        due("drop()", x.drop(), 0);
        due("drop()", x.drop(), MISSING);
        due("sums", x.sums(6), 0);
    }

    private static void look() {
        promise = 13;
        FormSeries x = new FormSeries();
        x.sums(12);
        x.product(3);
        x.power(0, 2);
        x.power(0, 0);
        x.add(0, 0, 0, 0);
        x.times(1, 3);
        int[] kinds = {SUMS, PRODUCT, EVEN, CONST, CUSP, CUSP};
        int[] weights = {12, 36, 24, 0, 12, 36};
        int[] leasts = {0, 3, 0, 0, NONE, 3};
        int[] sizes = {2, 4, 3, 1, 2, 4};
        int[] tolds = {12, 3, KIND, KIND, KIND, KIND};
        for (int f = 0; f < 6; f++) {
            dueForm(x, f, kinds[f], weights[f]);
            due("look(" + f + ", 2)", x.look(f, 2), leasts[f]);
            due("look(" + f + ", 3)", x.look(f, 3), sizes[f]);
            due("look(" + f + ", 4)", x.look(f, 4), tolds[f]);
            for (int what : new int[] {-1, 5, Integer.MAX_VALUE, Integer.MIN_VALUE}) due("look", x.look(f, what), NO);
        }
        for (int f : WRONG_FORMS) {
            due("look", x.look(f, 0), BEYOND);
            due("look", x.look(f, 4), BEYOND);
            due("look", x.look(f, 5), BEYOND);
        }
        due("NONE is no refusal", x.status(NO), 24);
    }

    private static void at() {
        promise = 14;
        FormSeries x = new FormSeries();
        x.sums(6);
        due("at", x.at(0, 0), 1);
        due("at", x.at(0, 1), M - 504);
        due("at", x.at(0, 47), rest(-504L * (1 + rest(47L * 47 * 47 * 47 * 47))));
        for (int n : new int[] {-1, 48, Integer.MAX_VALUE, Integer.MIN_VALUE}) due("at", x.at(0, n), BEYOND);
        for (int f : WRONG_FORMS) due("at", x.at(f, 0), BEYOND);
    }

    private static void part() {
        promise = 15;
        FormSeries x = new FormSeries();
        x.sums(6);
        x.power(0, 2);
        due("part", x.part(1, 0), 1);
        due("part: SUMS 6 squared is SUMS 4 to the 3 less 1728 D", x.part(1, 1), M - 1728);
        x.power(1, 3);
        long[] cube = {1, -3L * 1728, 3L * 1728 * 1728, -rest(1728L * 1728 * 1728)};
        for (int i = 0; i < 4; i++) due("part(2, " + i + ")", x.part(2, i), rest(cube[i]));
        x.product(3);
        for (int i = 0; i < 4; i++) due("part(3, " + i + ")", x.part(3, i), i == 3 ? 1 : 0);
        due("part", x.part(3, 4), BEYOND);
        due("part", x.part(1, 2), BEYOND);
        due("part", x.part(0, 1), BEYOND);
        x.power(0, 0);
        x.slope(4);
        due("part", x.part(4, 0), 1);
        due("part of WEIGHT 2", x.part(5, 0), BEYOND);
        for (int i : new int[] {-1, Integer.MAX_VALUE, Integer.MIN_VALUE}) due("part", x.part(0, i), BEYOND);
        for (int f : WRONG_FORMS) due("part", x.part(f, 0), BEYOND);
    }

    private static void same() {
        promise = 16;
        FormSeries x = new FormSeries();
        x.sums(4);
        x.power(0, 2);
        x.sums(8);
        x.add(0, 0, 0, 0);
        x.add(2, 0, 2, 0);
        x.power(0, 0);
        due("same", x.same(0, 0), 1);
        due("same", x.same(1, 2), 1);
        due("same of unlike WEIGHTS", x.same(0, 2), 0);
        due("same of both all 0", x.same(3, 4), 1);
        due("same of one all 0", x.same(3, 2), 0);
        due("same of one all 0", x.same(2, 3), 0);
        due("same of one WEIGHT", x.same(0, 3), 0);
        x.add(5, 2, 5, 0);
        due("same", x.same(5, 6), 0);
        x.product(3);
        x.basis(36, 0);
        x.add(8, 1, 7, 1);
        due("same but for place 3 on", x.same(8, 9), 0);
        for (int f : WRONG_FORMS) {
            due("same", x.same(f, 0), BEYOND);
            due("same", x.same(0, f), BEYOND);
        }
    }

    private static void apart() {
        promise = 17;
        FormSeries x = new FormSeries();
        for (int i = 0; i < 4; i++) x.basis(36, i);
        for (int i = 0; i < 4; i++) {
            x.add(0, 1, i, 5);
            due("apart", x.apart(0, 4 + i), i);
            due("apart", x.apart(4 + i, 0), i);
        }
        due("apart", x.apart(0, 0), NONE);
        x.basis(36, 0);
        due("apart", x.apart(0, 8), NONE);
        x.sums(4);
        due("apart", x.apart(0, 9), NO);
        x.add(0, 0, 0, 0);
        x.add(9, 0, 9, 0);
        due("apart of both all 0", x.apart(10, 11), NO);
        for (int f : WRONG_FORMS) {
            due("apart", x.apart(f, 0), BEYOND);
            due("apart", x.apart(0, f), BEYOND);
        }
    }

    private static void size() {
        promise = 18;
        FormSeries x = new FormSeries();
        int[] sizes = {1, 0, 1, 1, 1, 1, 2, 1, 2, 2, 2, 2, 3, 2, 3, 3, 3, 3, 4, 3, 4};
        for (int k = 0; k <= 40; k += 2) due("size(" + k + ")", x.size(k), sizes[k / 2]);
        for (int k : new int[] {-2, -1, 1, 3, 39, 41, 42, Integer.MAX_VALUE, Integer.MIN_VALUE}) due("size(" + k + ")", x.size(k), NO);
    }

    private static void own() {
        promise = 19;
        FormSeries x = new FormSeries();
        x.product(1);
        due("own", x.own(0, 2), M - 24);
        due("own", x.own(0, 3), 252);
        due("own", x.own(0, 5), 4830);
        due("own", x.own(0, 7), M - 16744);
        due("own", x.own(0, 11), 534612);
        x.add(0, 77, 0, 0);
        due("own of a multiple", x.own(1, 3), 252);
        x.sums(10);
        due("own", x.own(2, 2), 513);
        due("own", x.own(2, 11), rest(1 + 2357947691L));
        x.product(2);
        due("own of D squared", x.own(3, 2), NONE);
        x.sums(12);
        x.add(4, 1, 0, 1);
        due("own of a mixed one", x.own(5, 2), NONE);
        x.basis(16, 1);
        due("own", x.own(6, 2), 216);
        x.add(0, 0, 0, 0);
        due("own of all 0", x.own(7, 2), NONE);
        for (int p : new int[] {0, 1, 4, 13, -2, Integer.MAX_VALUE, Integer.MIN_VALUE}) due("own", x.own(0, p), NO);
        x.power(0, 0);
        due("own of WEIGHT 0", x.own(8, 2), NO);
        x.slope(8);
        due("own of WEIGHT 2", x.own(9, 2), NO);
        for (int f : WRONG_FORMS) due("own", x.own(f, 4), BEYOND);
        due("count()", x.count(), 10);
    }

    private static void trace() {
        promise = 20;
        FormSeries x = new FormSeries();
        int[] weights = {12, 16, 18, 20, 22, 26};
        long[] twos = {-24, 216, -528, 456, -288, -48};
        long[] threes = {252, -3348, -4284, 50652, -128844, -195804};
        for (int i = 0; i < 6; i++) {
            int k = weights[i];
            due("trace(" + k + ", 2, true)", x.trace(k, 2, true), rest(twos[i]));
            due("trace(" + k + ", 2, false)", x.trace(k, 2, false), rest(twos[i] + 1 + (1L << k - 1)));
            due("trace(" + k + ", 3, true)", x.trace(k, 3, true), rest(threes[i]));
        }
        due("trace", x.trace(24, 2, true), 1080);
        due("trace", x.trace(28, 2, true), M - 8280);
        due("trace", x.trace(36, 2, true), 139656);
        for (int k : new int[] {4, 6, 8, 10, 14}) {
            due("trace on no CUSP ones", x.trace(k, 5, true), 0);
            long power = 1;
            for (int i = 1; i < k; i++) power = power * 5 % M;
            due("trace", x.trace(k, 5, false), rest(1 + power));
        }
        for (int k : new int[] {0, 2, 3, 5, 39, 41, 42, -4, Integer.MAX_VALUE, Integer.MIN_VALUE}) due("trace", x.trace(k, 2, false), NO);
        for (int p : new int[] {0, 1, 4, 13, -2, Integer.MAX_VALUE, Integer.MIN_VALUE}) due("trace", x.trace(12, p, true), NO);
        due("count()", x.count(), 0);
    }

    private static void squares() {
        promise = 21;
        FormSeries x = new FormSeries();
        for (int s = 1; s <= 8; s++) {
            due("squares(" + s + ", 0)", x.squares(s, 0), 1);
            due("squares(" + s + ", 1)", x.squares(s, 1), 2 * s);
        }
        for (int n = 1; n < 100; n++) {
            int four = 0;
            long eight = 0;
            for (int d = 1; d <= n; d++) {
                if (n % d != 0) continue;
                if (d % 4 != 0) four += 8 * d;
                eight += ((n + d) % 2 == 0 ? 16L : -16L) * d * d * d;
            }
            due("squares(4, " + n + ")", x.squares(4, n), four);
            due("squares(8, " + n + ")", x.squares(8, n), eight);
        }
        due("squares(1, 99)", x.squares(1, 99), 0);
        due("squares(1, 81)", x.squares(1, 81), 2);
        due("squares(2, 65)", x.squares(2, 65), 16);
        due("squares(3, 7)", x.squares(3, 7), 0);
        due("squares(3, 9)", x.squares(3, 9), 30);
        for (int s : new int[] {0, 9, -1, Integer.MAX_VALUE, Integer.MIN_VALUE}) due("squares", x.squares(s, 1), NO);
        for (int n : new int[] {-1, 100, Integer.MAX_VALUE, Integer.MIN_VALUE}) due("squares", x.squares(1, n), NO);
    }

    private static void count() {
        promise = 22;
        FormSeries x = full();
        due("count()", x.count(), 16);
        x.sums(4);
        due("count()", x.count(), 16);
        for (int i = 15; i >= 0; i--) {
            x.drop();
            due("count()", x.count(), i);
        }
    }

    private static void lay() {
        promise = 23;
        FormSeries x = new FormSeries();
        x.sums(4);
        for (int n : new int[] {48, 5, 0}) {
            due("lay", x.lay(0, n), n);
            for (int i = 0; i < n; i++) due("row(" + i + ")", x.row(i), x.at(0, i));
            due("row(" + n + ")", x.row(n), BEYOND);
        }
        due("tear()", x.tear(), 1);
        for (int n : new int[] {-1, Integer.MIN_VALUE}) due("lay", x.lay(0, n), BELOW);
        for (int n : new int[] {49, Integer.MAX_VALUE}) due("lay", x.lay(0, n), NO);
        for (int f : WRONG_FORMS) {
            due("lay", x.lay(f, -1), BEYOND);
            due("lay", x.lay(f, 49), BEYOND);
        }
        due("row(0)", x.row(0), MISSING);
        x.lay(0, 3);
        x.tell(1, 7);
        due("the FORM stays", x.at(0, 1), 240);
        x.drop();
        x.sums(6);
        due("THE ROW stays", x.row(2), 2160);
    }

    private static void tell() {
        promise = 24;
        FormSeries x = new FormSeries();
        due("tell", x.tell(-1, 0), MISSING);
        x.sums(4);
        x.lay(0, 2);
        due("tell", x.tell(0, 1), 0);
        due("tell", x.tell(0, M + 1), 0);
        due("tell", x.tell(0, -M), 1);
        due("row", x.row(0), 0);
        due("tell", x.tell(1, Integer.MIN_VALUE), 1);
        due("row", x.row(1), rest(Integer.MIN_VALUE));
        due("tell", x.tell(1, Integer.MAX_VALUE), 1);
        due("row", x.row(1), rest(Integer.MAX_VALUE));
        for (int i : new int[] {-1, 2, 48, Integer.MAX_VALUE, Integer.MIN_VALUE}) due("tell", x.tell(i, 0), BEYOND);
    }

    private static void give() {
        promise = 25;
        FormSeries x = new FormSeries();
        due("give", x.give(12), MISSING);
        due("give", x.give(13), MISSING);
        x.sums(12);
        x.lay(0, 2);
        due("give", x.give(12), 1);
        dueForm(x, 1, EVEN, 12);
        due("same", x.same(0, 1), 1);
        x.tell(0, 0);
        x.tell(1, 1);
        due("give", x.give(12), 2);
        dueForm(x, 2, CUSP, 12);
        dueNumbers(x, 2, 0, 1, -24, 252, -1472);
        due("give by the first alone", x.give(0), 3);
        dueForm(x, 3, CONST, 0);
        due("look(3, 2)", x.look(3, 2), NONE);
        due("give of WEIGHT 2", x.give(2), 4);
        dueForm(x, 4, CUSP, 2);
        due("give: THE ROW has fewer", x.give(24), NO);
        for (int k : new int[] {-2, -1, 1, 13, 41, 42, Integer.MAX_VALUE, Integer.MIN_VALUE}) due("give(" + k + ")", x.give(k), NO);
        x.basis(40, 0);
        x.basis(40, 1);
        x.basis(40, 3);
        x.add(5, 17, 6, 29);
        x.add(8, 1, 7, 31);
        x.lay(9, 3);
        due("give: THE ROW has fewer", x.give(40), NO);
        x.lay(9, 4);
        due("give", x.give(40), 10);
        due("same", x.same(9, 10), 1);
        due("part", x.part(10, 3), 31);
        x.lay(9, 0);
        due("give: THE ROW has none", x.give(0), NO);
        due("give of WEIGHT 2", x.give(2), 11);
        x = full();
        x.lay(0, 1);
        due("give in no room", x.give(4), FULL);
        due("give in no room", x.give(12), NO);
        due("give in no room", x.give(5), NO);
        x.tear();
        due("give in no room", x.give(4), MISSING);
    }

    private static void tear() {
        promise = 26;
        FormSeries x = new FormSeries();
        due("tear()", x.tear(), 0);
        x.sums(4);
        x.lay(0, 0);
        due("tear() of an empty one", x.tear(), 1);
        due("tear()", x.tear(), 0);
        x.lay(0, 48);
        due("tear()", x.tear(), 1);
        due("row", x.row(0), MISSING);
    }

    private static void row() {
        promise = 27;
        FormSeries x = new FormSeries();
        due("row", x.row(0), MISSING);
        due("row", x.row(-1), MISSING);
        x.product(1);
        x.lay(0, 3);
        due("row", x.row(0), 0);
        due("row", x.row(1), 1);
        due("row", x.row(2), M - 24);
        for (int i : new int[] {-1, 3, 48, Integer.MAX_VALUE, Integer.MIN_VALUE}) due("row", x.row(i), BEYOND);
    }

    private static void dueRow(FormSeries x, int... numbers) {
        for (int i = 0; i < numbers.length; i++) due("row(" + i + ")", x.row(i), numbers[i]);
    }

    private static void copy() {
        promise = 28;
        FormSeries x = new FormSeries();
        due("copy", x.copy(0, 0, -1), MISSING);
        x.sums(4);
        x.lay(0, 6);
        for (int i = 0; i < 6; i++) x.tell(i, 10 + i);
        due("copy", x.copy(0, 2, 4), 4);
        dueRow(x, 10, 11, 10, 11, 12, 13);
        due("copy", x.copy(3, 1, 3), 3);
        dueRow(x, 10, 11, 12, 13, 12, 13);
        due("copy", x.copy(4, 0, 1), 1);
        dueRow(x, 12, 11, 12, 13, 12, 13);
        due("copy of none", x.copy(6, 6, 0), 0);
        due("copy of all", x.copy(0, 0, 6), 6);
        dueRow(x, 12, 11, 12, 13, 12, 13);
        due("copy", x.copy(7, 0, 0), COPY);
        due("copy", x.copy(0, 7, 0), COPY);
        due("copy", x.copy(-1, 0, 1), COPY);
        due("copy", x.copy(0, -1, 1), COPY);
        due("copy", x.copy(1, 0, 6), COPY);
        due("copy", x.copy(0, 1, 6), COPY);
        due("copy", x.copy(0, 0, 7), COPY);
        due("copy", x.copy(Integer.MAX_VALUE, 0, 1), COPY);
        due("copy", x.copy(0, Integer.MAX_VALUE, Integer.MAX_VALUE), COPY);
        due("copy", x.copy(1, 1, Integer.MAX_VALUE), COPY);
        due("copy", x.copy(Integer.MIN_VALUE, Integer.MIN_VALUE, 0), COPY);
        due("copy", x.copy(-1, 0, -1), BELOW);
        due("copy", x.copy(0, 0, Integer.MIN_VALUE), BELOW);
        dueRow(x, 12, 11, 12, 13, 12, 13);
    }

    private static void status() {
        promise = 29;
        FormSeries x = new FormSeries();
        x.drop();
        x.drop();
        x.at(0, 0);
        x.sums(4);
        x.power(0, -1);
        x.power(0, 0);
        x.look(1, 4);
        x.lay(0, 1);
        x.copy(1, 1, 1);
        x.sums(5);
        x.power(0, 11);
        x.own(0, 2);
        x.apart(0, 0);
        due("status", x.status(MISSING), 2);
        due("status", x.status(BEYOND), 1);
        due("status", x.status(BELOW), 1);
        due("status", x.status(KIND), 1);
        due("status", x.status(COPY), 1);
        due("status", x.status(NO), 1);
        due("status", x.status(FULL), 1);
        for (int by : new int[] {NONE, 0, 1, -9, Integer.MAX_VALUE, Integer.MIN_VALUE}) due("status(" + by + ")", x.status(by), NO);
        due("a refused status is counted", x.status(NO), 7);
    }

    /** Section 4: a refused call changes nothing but status(). */
    private static void refusedChangesNothing() {
        promise = 0;
        FormSeries x = full();
        x.lay(0, 5);
        x.sums(6); x.sums(5); x.product(1); x.add(0, 2, 0, 3); x.times(0, 0); x.power(0, 2); x.slope(0);
        x.bracket(0, 0); x.over(0); x.prime(0, 2); x.basis(4, 0); x.give(4); x.lay(0, 49); x.lay(0, -1);
        x.tell(5, 9); x.copy(0, 4, 2); x.status(0);
        due("count()", x.count(), 16);
        for (int f = 0; f < 16; f++) dueForm(x, f, SUMS, 4);
        dueNumbers(x, 15, 1, 240, 2160);
        dueRow(x, 1, 240, 2160, 6720, 17520);
        due("row(5)", x.row(5), BEYOND);
    }
}
