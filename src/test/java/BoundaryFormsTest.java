/** Promises 1 to 12, the forms that come: a case for each boundary that their sentences name, on both sides of it. */
public final class BoundaryFormsTest {
    private static final int M = Numbers.M;
    private static final int MISSING = Cases.MISSING, BEYOND = Cases.BEYOND, BELOW = Cases.BELOW;
    private static final int KIND = Cases.KIND, NO = Cases.NO, FULL = Cases.FULL;
    private static final int SUMS = Cases.SUMS, PRODUCT = Cases.PRODUCT, CONST = Cases.CONST, CUSP = Cases.CUSP;
    private static final int LEAST = Cases.LEAST, MOST = Cases.MOST;
    private static final int[] PRIMES = {2, 3, 5, 7, 11};
    private static final Cases.Recipe NEW = Cases.NEW;
    private static final Cases.Recipe FULL_ROOM = Cases.sums(16);
    private static final Cases.Recipe THREE = Cases.sums(3);
    private static final Cases.Recipe ONE = Cases.basisOf(0);
    private static final Cases.Recipe D = x -> x.product(1);
    private static final long[] E4 = Numbers.sums(4);
    private static final long[] E6 = Numbers.sums(6);

    public static void main(String[] args) {
        Cases.runAll(BoundaryFormsTest.class, 1, 12);
    }

    // ---- 1 a new object

    static void p01_noForms() {
        Cases.told("count()", NEW, FormSeries::count, 0);
    }

    static void p01_noFormHasNumber0() {
        Cases.refused("add", NEW, x -> x.add(0, 1, 0, 1), BEYOND);
        Cases.refused("times", NEW, x -> x.times(0, 0), BEYOND);
        Cases.refused("power", NEW, x -> x.power(0, 0), BEYOND);
        Cases.refused("slope", NEW, x -> x.slope(0), BEYOND);
        Cases.refused("bracket", NEW, x -> x.bracket(0, 0), BEYOND);
        Cases.refused("over", NEW, x -> x.over(0), BEYOND);
        Cases.refused("prime", NEW, x -> x.prime(0, 2), BEYOND);
        Cases.refused("look", NEW, x -> x.look(0, 0), BEYOND);
        Cases.refused("at", NEW, x -> x.at(0, 0), BEYOND);
        Cases.refused("part", NEW, x -> x.part(0, 0), BEYOND);
        Cases.refused("same", NEW, x -> x.same(0, 0), BEYOND);
        Cases.refused("apart", NEW, x -> x.apart(0, 0), BEYOND);
        Cases.refused("own", NEW, x -> x.own(0, 2), BEYOND);
        Cases.refused("lay", NEW, x -> x.lay(0, 0), BEYOND);
    }

    static void p01_nothingWasRefused() {
        for (int by = FULL; by <= MISSING; by++) {
            int which = by;
            Cases.told("status(" + by + ")", NEW, x -> x.status(which), 0);
        }
    }

    static void p01_theFirstFormIsNumber0() {
        Cases.comes("sums(4)", NEW, x -> x.sums(4), SUMS, 4, 4, E4);
    }

    static void p01_objectsStandApart() {
        FormSeries full = new FormSeries();
        FULL_ROOM.on(full);
        full.lay(0, 48);
        full.sums(4);
        FormSeries other = new FormSeries();
        Cases.due("count()", other.count(), 0);
        Cases.due("status", other.status(FULL), 0);
        Cases.due("row", other.row(0), MISSING);
        Cases.due("count()", full.count(), 16);
    }

    static void p01_the512thCall() {
        FormSeries x = new FormSeries();
        for (int call = 0; call < 170; call++) {
            x.product(3);
            x.at(0, 3);
            x.drop();
        }
        x.sums(14);
        Cases.due("the 512th call", x.at(0, 1), M - 24);
    }

    // ---- 2 sums

    static void p02_eachOfTheSixWeights() {
        for (int k = 4; k <= 14; k += 2) {
            int weight = k;
            Cases.comes("sums(" + k + ")", NEW, x -> x.sums(weight), SUMS, k, k, Numbers.sums(k));
        }
    }

    static void p02_weightsBelowTheLeast() {
        for (int k : new int[] {3, 2, 1, 0, -1, -2, -4, -6, LEAST}) {
            Cases.refused("sums(" + k + ")", NEW, x -> x.sums(k), NO);
        }
    }

    static void p02_weightsAboveTheGreatest() {
        for (int k : new int[] {15, 16, 18, 20, 24, 40, 42, MOST}) {
            Cases.refused("sums(" + k + ")", NEW, x -> x.sums(k), NO);
        }
    }

    static void p02_oddWeightsBetween() {
        for (int k : new int[] {5, 7, 9, 11, 13}) {
            Cases.refused("sums(" + k + ")", NEW, x -> x.sums(k), NO);
        }
    }

    static void p02_room() {
        for (int k = 4; k <= 14; k += 2) {
            int weight = k;
            Cases.needsRoom("sums(" + k + ")", NEW, x -> x.sums(weight));
        }
    }

    static void p02_noAheadOfFull() {
        for (int k : new int[] {2, 5, 16, LEAST, MOST}) {
            Cases.refused("sums(" + k + ")", FULL_ROOM, x -> x.sums(k), NO);
        }
    }

    // ---- 3 product

    static void p03_from1To3() {
        for (int e = 1; e <= 3; e++) {
            int power = e;
            Cases.comes("product(" + e + ")", NEW, x -> x.product(power), PRODUCT, 12 * e, e, Numbers.product(e));
        }
    }

    static void p03_below1() {
        for (int e : new int[] {0, -1, -3, LEAST}) {
            Cases.refused("product(" + e + ")", NEW, x -> x.product(e), NO);
        }
    }

    static void p03_above3() {
        for (int e : new int[] {4, 5, 357913942, MOST}) {
            Cases.refused("product(" + e + ")", NEW, x -> x.product(e), NO);
        }
    }

    static void p03_room() {
        for (int e = 1; e <= 3; e++) {
            int power = e;
            Cases.needsRoom("product(" + e + ")", NEW, x -> x.product(power));
        }
    }

    static void p03_noAheadOfFull() {
        for (int e : new int[] {0, 4}) {
            Cases.refused("product(" + e + ")", FULL_ROOM, x -> x.product(e), NO);
        }
    }

    // ---- 4 add

    static void p04_formsThatAreThere() {
        Cases.Recipe three = x -> {
            x.sums(12);
            x.product(1);
            x.basis(12, 0);
        };
        long[] first = Numbers.sums(12);
        long[] last = Numbers.basis(12, 0);
        Cases.comes("add(0, 2, 2, 3)", three, x -> x.add(0, 2, 2, 3), 12, Numbers.mixed(first, 2, last, 3));
        Cases.comes("add(2, 2, 0, 3)", three, x -> x.add(2, 2, 0, 3), 12, Numbers.mixed(last, 2, first, 3));
        Cases.comes("add(2, 2, 2, 3)", three, x -> x.add(2, 2, 2, 3), 12, Numbers.mixed(last, 5, last, 0));
    }

    static void p04_formsBeyond() {
        Cases.refusesFormsBeyond("add, f", THREE, (x, f) -> x.add(f, 1, 0, 1));
        Cases.refusesFormsBeyond("add, g", THREE, (x, g) -> x.add(0, 1, g, 1));
        Cases.refusesFormsBeyond("add, both", THREE, (x, f) -> x.add(f, 1, f, 1));
    }

    static void p04_anyFactors() {
        int[] factors = {0, 1, -1, M - 1, M, M + 1, 1 - M, -M, -M - 1, LEAST, LEAST + 1, MOST, MOST - 1};
        Cases.Recipe two = x -> {
            x.sums(12);
            x.product(1);
        };
        long[] a = Numbers.sums(12);
        long[] b = Numbers.product(1);
        for (int x : factors) {
            for (int y : factors) {
                Cases.comes("add(0, " + x + ", 1, " + y + ")", two, s -> s.add(0, x, 1, y), 12, Numbers.mixed(a, x, b, y));
            }
        }
    }

    static void p04_factorsAtTheirGreatestTimesTheGreatestNumber() {
        Cases.Recipe one = x -> {
            x.basis(0, 0);
            x.add(0, -1, 0, 0);
        };
        long[] answer = Numbers.nought();
        answer[0] = Numbers.rest(-2L * LEAST);
        Cases.comes("add", one, x -> x.add(1, LEAST, 1, LEAST), 0, answer);
        long[] other = Numbers.nought();
        other[0] = Numbers.rest(-2L * MOST);
        Cases.comes("add", one, x -> x.add(1, MOST, 1, MOST), 0, other);
    }

    static void p04_kindOfWhatComes() {
        Cases.comes("0 at place 0", Cases.basisOf(12), x -> x.add(0, M, 0, 0), CUSP, 12, KIND, Numbers.nought());
        Cases.comes("1 at place 0", Cases.basisOf(12), x -> x.add(0, M, 0, 1), Cases.EVEN, 12, KIND, Numbers.basis(12, 0));
        Cases.comes("all 0 of WEIGHT 0", ONE, x -> x.add(0, 1, 0, -1), CONST, 0, KIND, Numbers.nought());
        Cases.comes("all 0 of WEIGHT 2", Cases.nought(2), x -> x.add(0, 1, 0, 1), CUSP, 2, KIND, Numbers.nought());
        Cases.comes("1 times D is no PRODUCT", D, x -> x.add(0, 1, 0, 0), CUSP, 12, KIND, Numbers.product(1));
        Cases.comes("1 times SUMS is no SUMS", Cases.sums(1), x -> x.add(0, 1, 0, 0), Cases.EVEN, 4, KIND, E4);
    }

    static void p04_unlikeWeights() {
        Cases.Recipe two = Cases.basisOf(4, 6);
        Cases.refused("add", two, x -> x.add(0, 1, 1, 1), NO);
        Cases.refused("add", two, x -> x.add(1, 1, 0, 1), NO);
        Cases.refused("add, 0 times the other", two, x -> x.add(0, 1, 1, 0), NO);
        Cases.refused("add, 0 times both", two, x -> x.add(0, 0, 1, 0), NO);
        Cases.comes("add of like WEIGHTS", two, x -> x.add(1, 1, 1, 1), 6, Numbers.mixed(E6, 2, E6, 0));
        Cases.Recipe noughts = Cases.both(Cases.nought(2), x -> x.slope(0));
        Cases.refused("add of two that are all 0", noughts, x -> x.add(0, 1, 1, 1), NO);
    }

    static void p04_weight40() {
        long[] a = Numbers.basis(40, 0);
        Cases.comes("add", Cases.basisOf(40), x -> x.add(0, 1, 0, 1), 40, Numbers.mixed(a, 2, a, 0));
    }

    static void p04_room() {
        Cases.needsRoom("add", NEW, x -> x.add(0, 1, 1, 1));
    }

    static void p04_refusalsInTheirOrder() {
        Cases.Recipe full = Cases.filled(Cases.basisOf(6), 16);
        Cases.refused("BEYOND ahead of FULL", full, x -> x.add(16, 1, 0, 1), BEYOND);
        Cases.refused("BEYOND ahead of FULL", full, x -> x.add(0, 1, -1, 1), BEYOND);
        Cases.refused("NO ahead of FULL", full, x -> x.add(0, 1, 1, 1), NO);
        Cases.refused("FULL", full, x -> x.add(15, 1, 1, 1), FULL);
    }

    // ---- 5 times

    static void p05_formsThatAreThere() {
        Cases.Recipe three = Cases.basisOf(6, 4, 10);
        Cases.comes("times(0, 2)", three, x -> x.times(0, 2), 16, Numbers.multiplied(E6, Numbers.basis(10, 0)));
        Cases.comes("times(2, 2)", three, x -> x.times(2, 2), 20, Numbers.raised(Numbers.basis(10, 0), 2));
        Cases.comes("times(2, 0)", three, x -> x.times(2, 0), 16, Numbers.multiplied(E6, Numbers.basis(10, 0)));
    }

    static void p05_formsBeyond() {
        Cases.refusesFormsBeyond("times, f", THREE, (x, f) -> x.times(f, 0));
        Cases.refusesFormsBeyond("times, g", THREE, (x, g) -> x.times(0, g));
        Cases.refusesFormsBeyond("times, both", THREE, (x, f) -> x.times(f, f));
    }

    static void p05_weight40And42() {
        Cases.Recipe two = Cases.basisOf(26, 14, 16, 40, 0, 20);
        long[] a = Numbers.multiplied(Numbers.basis(26, 0), Numbers.basis(14, 0));
        Cases.comes("26 and 14", two, x -> x.times(0, 1), 40, a);
        Cases.comes("14 and 26", two, x -> x.times(1, 0), 40, a);
        Cases.comes("20 and 20", two, x -> x.times(5, 5), 40, Numbers.basis(40, 0));
        Cases.comes("40 and 0", two, x -> x.times(3, 4), 40, Numbers.basis(40, 0));
        Cases.refused("26 and 16", two, x -> x.times(0, 2), FULL);
        Cases.refused("16 and 26", two, x -> x.times(2, 0), FULL);
        Cases.refused("40 and 40", two, x -> x.times(3, 3), FULL);
        Cases.refused("all 0 of WEIGHT 2, and 40", Cases.both(Cases.nought(2), Cases.basisOf(40)), x -> x.times(0, 1), FULL);
        Cases.comes("all 0 of WEIGHT 2, and 38", Cases.both(Cases.nought(2), Cases.basisOf(38)), x -> x.times(0, 1), 40, Numbers.nought());
    }

    static void p05_kindOfWhatComes() {
        Cases.comes("times of WEIGHT 0", ONE, x -> x.times(0, 0), CONST, 0, KIND, Numbers.one());
        Cases.comes("times D", Cases.both(D, Cases.sums(1)), x -> x.times(1, 0), CUSP, 16, KIND, Numbers.basis(16, 1));
        Cases.comes("SUMS 4 twice", Cases.sums(1), x -> x.times(0, 0), Cases.EVEN, 8, KIND, Numbers.sums(8));
        Cases.comes("all 0 twice", Cases.nought(2), x -> x.times(0, 0), CUSP, 4, KIND, Numbers.nought());
    }

    static void p05_room() {
        Cases.needsRoom("times", NEW, x -> x.times(0, 1));
    }

    static void p05_refusalsInTheirOrder() {
        Cases.refused("BEYOND ahead of no room", FULL_ROOM, x -> x.times(15, 16), BEYOND);
        Cases.refused("BEYOND ahead of no room", FULL_ROOM, x -> x.times(16, 15), BEYOND);
        Cases.refused("FULL", FULL_ROOM, x -> x.times(15, 15), FULL);
        Cases.refused("BEYOND", Cases.basisOf(40), x -> x.times(0, 1), BEYOND);
    }

    // ---- 6 power

    static void p06_formsThatAreThere() {
        Cases.Recipe three = Cases.basisOf(4, 8, 6);
        Cases.comes("power(0, 2)", three, x -> x.power(0, 2), 8, Numbers.sums(8));
        Cases.comes("power(2, 2)", three, x -> x.power(2, 2), 12, Numbers.raised(E6, 2));
    }

    static void p06_formsBeyond() {
        Cases.refusesFormsBeyond("power", THREE, (x, f) -> x.power(f, 2));
        Cases.refusesFormsBeyond("power to the 0", THREE, (x, f) -> x.power(f, 0));
    }

    static void p06_toThe0() {
        Cases.comes("SUMS", Cases.sums(1), x -> x.power(0, 0), CONST, 0, KIND, Numbers.one());
        Cases.comes("WEIGHT 40", Cases.basisOf(40), x -> x.power(0, 0), CONST, 0, KIND, Numbers.one());
        Cases.comes("all 0", Cases.nought(12), x -> x.power(0, 0), CONST, 0, KIND, Numbers.one());
        Cases.comes("D", D, x -> x.power(0, 0), CONST, 0, KIND, Numbers.one());
    }

    static void p06_toThe1() {
        Cases.comes("SUMS", Cases.sums(1), x -> x.power(0, 1), Cases.EVEN, 4, KIND, E4);
        Cases.comes("D", D, x -> x.power(0, 1), CUSP, 12, KIND, Numbers.product(1));
        Cases.comes("all 0 of WEIGHT 0", Cases.nought(0), x -> x.power(0, 1), CONST, 0, KIND, Numbers.nought());
    }

    static void p06_toThe20And21() {
        Cases.Recipe two = Cases.both(ONE, x -> x.add(0, 2, 0, 0));
        long[] answer = Numbers.nought();
        answer[0] = Numbers.raised(2, 20);
        Cases.comes("2 to the 20", two, x -> x.power(1, 20), 0, answer);
        long[] less = Numbers.nought();
        less[0] = Numbers.raised(2, 19);
        Cases.comes("2 to the 19", two, x -> x.power(1, 19), 0, less);
        for (int e : new int[] {21, 22, 32, 64, MOST}) {
            Cases.refused("2 to the " + e, two, x -> x.power(1, e), NO);
        }
    }

    static void p06_below0() {
        for (int e : new int[] {-1, -2, -20, LEAST}) {
            Cases.refused("power to the " + e, Cases.sums(1), x -> x.power(0, e), BELOW);
            Cases.refused("power of WEIGHT 0 to the " + e, ONE, x -> x.power(0, e), BELOW);
        }
    }

    static void p06_weight40And42() {
        Cases.comes("WEIGHT 4 to the 10", Cases.sums(1), x -> x.power(0, 10), 40, Numbers.basis(40, 0));
        Cases.refused("WEIGHT 4 to the 11", Cases.sums(1), x -> x.power(0, 11), FULL);
        Cases.refused("WEIGHT 4 to the 20", Cases.sums(1), x -> x.power(0, 20), FULL);
        Cases.comes("WEIGHT 6 to the 6", Cases.basisOf(6), x -> x.power(0, 6), 36, Numbers.raised(E6, 6));
        Cases.refused("WEIGHT 6 to the 7", Cases.basisOf(6), x -> x.power(0, 7), FULL);
        Cases.comes("WEIGHT 2 to the 20", Cases.nought(2), x -> x.power(0, 20), CUSP, 40, KIND, Numbers.nought());
        Cases.comes("WEIGHT 40 to the 1", Cases.basisOf(40), x -> x.power(0, 1), 40, Numbers.basis(40, 0));
        Cases.refused("WEIGHT 40 to the 2", Cases.basisOf(40), x -> x.power(0, 2), FULL);
        Cases.comes("WEIGHT 20 to the 2", Cases.basisOf(20), x -> x.power(0, 2), 40, Numbers.basis(40, 0));
        Cases.refused("WEIGHT 22 to the 2", Cases.basisOf(22), x -> x.power(0, 2), FULL);
        Cases.comes("D to the 3", D, x -> x.power(0, 3), CUSP, 36, KIND, Numbers.product(3));
        Cases.refused("D to the 4", D, x -> x.power(0, 4), FULL);
    }

    static void p06_room() {
        Cases.needsRoom("power", NEW, x -> x.power(0, 2));
        Cases.needsRoom("power to the 0", NEW, x -> x.power(0, 0));
    }

    static void p06_refusalsInTheirOrder() {
        Cases.refused("BEYOND ahead of BELOW", FULL_ROOM, x -> x.power(16, -1), BEYOND);
        Cases.refused("BEYOND ahead of NO", FULL_ROOM, x -> x.power(-1, 21), BEYOND);
        Cases.refused("BEYOND ahead of FULL", FULL_ROOM, x -> x.power(16, 2), BEYOND);
        Cases.refused("BELOW ahead of FULL", FULL_ROOM, x -> x.power(15, -1), BELOW);
        Cases.refused("NO ahead of FULL", FULL_ROOM, x -> x.power(15, 21), NO);
        Cases.refused("NO ahead of a WEIGHT above 40", Cases.sums(1), x -> x.power(0, 21), NO);
        Cases.refused("FULL", FULL_ROOM, x -> x.power(15, 20), FULL);
    }

    // ---- 7 slope

    static void p07_formsThatAreThere() {
        Cases.Recipe three = Cases.basisOf(4, 8, 6);
        Cases.comes("slope(0)", three, x -> x.slope(0), 6, Numbers.slope(4, E4));
        Cases.comes("slope(2)", three, x -> x.slope(2), 8, Numbers.slope(6, E6));
    }

    static void p07_formsBeyond() {
        Cases.refusesFormsBeyond("slope", THREE, FormSeries::slope);
    }

    static void p07_weight0And2() {
        Cases.comes("slope of 1", ONE, x -> x.slope(0), CUSP, 2, KIND, Numbers.nought());
        Cases.comes("slope of WEIGHT 2", Cases.nought(2), x -> x.slope(0), CUSP, 4, KIND, Numbers.nought());
    }

    static void p07_weight38And40() {
        Cases.comes("slope", Cases.basisOf(38), x -> x.slope(0), 40, Numbers.slope(38, Numbers.basis(38, 0)));
        Cases.refused("slope", Cases.basisOf(40), x -> x.slope(0), FULL);
        Cases.refused("slope of all 0", Cases.nought(40), x -> x.slope(0), FULL);
    }

    static void p07_kindOfWhatComes() {
        Cases.comes("slope of D, all 0", D, x -> x.slope(0), CUSP, 14, KIND, Numbers.nought());
        Cases.comes("slope of D squared", x -> x.product(2), x -> x.slope(0), CUSP, 26, KIND, Numbers.slope(24, Numbers.product(2)));
        Cases.comes("slope of SUMS", Cases.sums(1), x -> x.slope(0), Cases.EVEN, 6, KIND, Numbers.mixed(E6, Numbers.quotient(-1, 3), E6, 0));
    }

    static void p07_room() {
        Cases.needsRoom("slope", NEW, x -> x.slope(0));
    }

    static void p07_beyondAheadOfFull() {
        Cases.refused("slope", FULL_ROOM, x -> x.slope(16), BEYOND);
        Cases.refused("slope", FULL_ROOM, x -> x.slope(-1), BEYOND);
        Cases.refused("slope", FULL_ROOM, x -> x.slope(15), FULL);
    }

    // ---- 8 bracket

    static void p08_formsThatAreThere() {
        Cases.Recipe three = Cases.basisOf(4, 8, 6);
        Cases.comes("bracket(0, 2)", three, x -> x.bracket(0, 2), 12, Numbers.bracket(4, E4, 6, E6));
        Cases.comes("bracket(2, 0)", three, x -> x.bracket(2, 0), 12, Numbers.bracket(6, E6, 4, E4));
        Cases.comes("bracket(2, 2)", three, x -> x.bracket(2, 2), 14, Numbers.nought());
    }

    static void p08_formsBeyond() {
        Cases.refusesFormsBeyond("bracket, f", THREE, (x, f) -> x.bracket(f, 0));
        Cases.refusesFormsBeyond("bracket, g", THREE, (x, g) -> x.bracket(0, g));
        Cases.refusesFormsBeyond("bracket, both", THREE, (x, f) -> x.bracket(f, f));
    }

    static void p08_weight0() {
        Cases.comes("bracket of 1, 1", ONE, x -> x.bracket(0, 0), CUSP, 2, KIND, Numbers.nought());
        Cases.comes("bracket of 1, SUMS 4", Cases.basisOf(0, 4), x -> x.bracket(0, 1), CUSP, 6, KIND, Numbers.nought());
        Cases.comes("bracket of SUMS 4, 1", Cases.basisOf(0, 4), x -> x.bracket(1, 0), CUSP, 6, KIND, Numbers.nought());
        Cases.comes("bracket of WEIGHT 2", Cases.nought(2), x -> x.bracket(0, 0), CUSP, 6, KIND, Numbers.nought());
    }

    static void p08_weight40And42() {
        Cases.Recipe forms = Cases.basisOf(20, 18, 0, 38, 40);
        Cases.comes("20 and 18", forms, x -> x.bracket(0, 1), 40, Numbers.bracket(20, Numbers.basis(20, 0), 18, Numbers.basis(18, 0)));
        Cases.comes("38 and 0", forms, x -> x.bracket(3, 2), 40, Numbers.nought());
        Cases.refused("20 and 20", forms, x -> x.bracket(0, 0), FULL);
        Cases.refused("40 and 0", forms, x -> x.bracket(4, 2), FULL);
        Cases.refused("0 and 40", forms, x -> x.bracket(2, 4), FULL);
        Cases.refused("40 and 40", forms, x -> x.bracket(4, 4), FULL);
    }

    static void p08_greatestFactors() {
        Cases.Recipe two = x -> {
            x.product(3);
            x.basis(0, 0);
            x.add(1, -1, 1, 0);
        };
        Cases.comes("36 and 0", two, x -> x.bracket(2, 0), 38, Numbers.nought());
        Cases.Recipe others = Cases.basisOf(34, 4);
        Cases.comes("34 and 4", others, x -> x.bracket(0, 1), 40, Numbers.bracket(34, Numbers.basis(34, 0), 4, E4));
        Cases.comes("4 and 34", others, x -> x.bracket(1, 0), 40, Numbers.bracket(4, E4, 34, Numbers.basis(34, 0)));
    }

    static void p08_room() {
        Cases.needsRoom("bracket", NEW, x -> x.bracket(0, 1));
    }

    static void p08_beyondAheadOfFull() {
        Cases.refused("bracket", FULL_ROOM, x -> x.bracket(16, 0), BEYOND);
        Cases.refused("bracket", FULL_ROOM, x -> x.bracket(0, 16), BEYOND);
        Cases.refused("bracket", FULL_ROOM, x -> x.bracket(15, 15), FULL);
        Cases.refused("bracket", Cases.basisOf(40), x -> x.bracket(0, 1), BEYOND);
    }

    // ---- 9 over

    static void p09_formsThatAreThere() {
        Cases.Recipe three = x -> {
            x.product(1);
            x.product(2);
            x.product(3);
        };
        Cases.comes("over(0)", three, x -> x.over(0), 0, Numbers.one());
        Cases.comes("over(2)", three, x -> x.over(2), 24, Numbers.product(2));
    }

    static void p09_formsBeyond() {
        Cases.Recipe three = x -> {
            x.product(1);
            x.product(1);
            x.product(1);
        };
        Cases.refusesFormsBeyond("over", three, FormSeries::over);
    }

    static void p09_weight12AndLess() {
        Cases.comes("WEIGHT 12", Cases.nought(12), x -> x.over(0), CONST, 0, KIND, Numbers.nought());
        for (int weight = 0; weight <= 10; weight += 2) {
            Cases.refused("WEIGHT " + weight + ", all 0", Cases.nought(weight), x -> x.over(0), NO);
        }
    }

    static void p09_weight14() {
        Cases.comes("WEIGHT 14", Cases.nought(14), x -> x.over(0), CUSP, 2, KIND, Numbers.nought());
    }

    /** The last place of what comes can't be told by the 48 numbers of f alone. */
    static void p09_eachWeightAndTheLastPlace() {
        for (int k = 12; k <= 40; k += 2) {
            for (int i = 1; i < Numbers.size(k); i++) {
                int weight = k;
                int which = i;
                Cases.comes("BASIS " + i + " of " + k, x -> x.basis(weight, which), x -> x.over(0), k - 12, Numbers.basis(k - 12, i - 1));
            }
        }
    }

    static void p09_itsFirstNumber() {
        Cases.refused("1 at place 0", Cases.basisOf(12), x -> x.over(0), NO);
        Cases.refused("SUMS 12", x -> x.sums(12), x -> x.over(0), NO);
        Cases.refused("WEIGHT 40", Cases.basisOf(40), x -> x.over(0), NO);
        Cases.Recipe greatest = Cases.both(Cases.basisOf(12), x -> x.add(0, -1, 0, 0));
        Cases.refused("1000002 at place 0", greatest, x -> x.over(1), NO);
        Cases.Recipe none = Cases.both(Cases.basisOf(12), x -> x.add(0, M, 0, 0));
        Cases.comes("0 at place 0", none, x -> x.over(1), 0, Numbers.nought());
    }

    static void p09_room() {
        Cases.needsRoom("over", D, x -> x.over(0));
    }

    static void p09_refusalsInTheirOrder() {
        Cases.Recipe full = Cases.filled(Cases.both(D, Cases.basisOf(12, 4)), 16);
        Cases.refused("BEYOND ahead of FULL", full, x -> x.over(16), BEYOND);
        Cases.refused("NO ahead of FULL, its first NUMBER", full, x -> x.over(1), NO);
        Cases.refused("NO ahead of FULL, WEIGHT", full, x -> x.over(2), NO);
        Cases.refused("FULL", full, x -> x.over(0), FULL);
    }

    // ---- 10 prime

    static void p10_eachPrimeOfEachWeight() {
        for (int k = 4; k <= 40; k += 2) {
            int weight = k;
            long[] a = Numbers.nought();
            for (int i = 0; i < Numbers.size(k); i++) {
                a = Numbers.mixed(a, 1, Numbers.basis(k, i), 7 + i);
            }
            Cases.Recipe state = x -> {
                x.basis(weight, 0);
                x.add(0, 7, 0, 0);
                for (int i = 1; i < Numbers.size(weight); i++) {
                    x.basis(weight, i);
                    x.add(2 * i - 1, 1, 2 * i, 7 + i);
                }
            };
            for (int p : PRIMES) {
                Cases.comes(p + " of WEIGHT " + k, state, x -> x.prime(x.count() - 1, p), k, Numbers.prime(k, a, p));
            }
        }
    }

    static void p10_formsBeyond() {
        Cases.refusesFormsBeyond("prime", THREE, (x, f) -> x.prime(f, 2));
    }

    static void p10_otherNumbersThanThePrimes() {
        for (int p : Cases.wrongPrimes()) {
            Cases.refused("prime(0, " + p + ")", Cases.sums(1), x -> x.prime(0, p), NO);
        }
    }

    static void p10_weight4AndLess() {
        for (int p : PRIMES) {
            Cases.refused("WEIGHT 0", ONE, x -> x.prime(0, p), NO);
            Cases.refused("WEIGHT 2", Cases.nought(2), x -> x.prime(0, p), NO);
            Cases.comes("WEIGHT 4", Cases.nought(4), x -> x.prime(0, p), CUSP, 4, KIND, Numbers.nought());
        }
    }

    static void p10_whereThePrimeDividesThePlace() {
        Cases.Recipe state = x -> x.basis(36, 1);
        long[] a = Numbers.basis(36, 1);
        Cases.due("place 2 of 2", placeOf(state, 2, 2), Numbers.rest(a[4] + Numbers.raised(2, 35) * a[1]));
        Cases.due("place 3 of 2", placeOf(state, 2, 3), a[6]);
        Cases.due("place 3 of 3", placeOf(state, 3, 3), Numbers.rest(a[9] + Numbers.raised(3, 35) * a[1]));
        Cases.due("place 2 of 3", placeOf(state, 3, 2), a[6]);
        Cases.due("place 3 of 11", placeOf(state, 11, 3), a[33]);
        long[] b = Numbers.basis(36, 0);
        Cases.due("place 0 of 11", placeOf(Cases.basisOf(36), 11, 0), Numbers.rest(b[0] + Numbers.raised(11, 35) * b[0]));
    }

    private static int placeOf(Cases.Recipe state, int p, int n) {
        FormSeries x = new FormSeries();
        state.on(x);
        return x.at(x.prime(0, p), n);
    }

    static void p10_room() {
        Cases.needsRoom("prime", NEW, x -> x.prime(0, 11));
    }

    static void p10_refusalsInTheirOrder() {
        Cases.Recipe full = Cases.filled(ONE, 16);
        Cases.refused("BEYOND ahead of NO", full, x -> x.prime(16, 4), BEYOND);
        Cases.refused("BEYOND ahead of FULL", full, x -> x.prime(16, 2), BEYOND);
        Cases.refused("NO ahead of FULL, p", full, x -> x.prime(15, 13), NO);
        Cases.refused("NO ahead of FULL, WEIGHT", full, x -> x.prime(0, 2), NO);
        Cases.refused("FULL", full, x -> x.prime(15, 2), FULL);
    }

    // ---- 11 basis

    static void p11_eachOfEachWeight() {
        for (int k = 0; k <= 40; k += 2) {
            for (int i = 0; i < Numbers.size(k); i++) {
                int weight = k;
                int which = i;
                Cases.comes("basis(" + k + ", " + i + ")", NEW, x -> x.basis(weight, which), k, Numbers.basis(k, i));
            }
        }
    }

    static void p11_numbersBeyond() {
        for (int k = 0; k <= 40; k += 2) {
            int weight = k;
            for (int i : new int[] {-1, Numbers.size(k), Numbers.size(k) + 1, LEAST, MOST}) {
                Cases.refused("basis(" + k + ", " + i + ")", NEW, x -> x.basis(weight, i), BEYOND);
            }
        }
    }

    static void p11_weight2HasNone() {
        Cases.refused("basis(2, 0)", NEW, x -> x.basis(2, 0), BEYOND);
    }

    static void p11_weightsBeside() {
        for (int k : Cases.wrongWeights()) {
            Cases.refused("basis(" + k + ", 0)", NEW, x -> x.basis(k, 0), NO);
        }
    }

    static void p11_sumsAndDAreMadeOfOthersHere() {
        Cases.comes("basis(4, 0)", NEW, x -> x.basis(4, 0), Cases.EVEN, 4, KIND, E4);
        Cases.comes("basis(12, 1)", NEW, x -> x.basis(12, 1), CUSP, 12, KIND, Numbers.product(1));
        Cases.comes("basis(0, 0)", NEW, x -> x.basis(0, 0), CONST, 0, KIND, Numbers.one());
    }

    static void p11_room() {
        Cases.needsRoom("basis(0, 0)", NEW, x -> x.basis(0, 0));
        Cases.needsRoom("basis(40, 3)", NEW, x -> x.basis(40, 3));
    }

    static void p11_refusalsInTheirOrder() {
        Cases.refused("NO ahead of BEYOND", NEW, x -> x.basis(42, -1), NO);
        Cases.refused("NO ahead of BEYOND", NEW, x -> x.basis(41, 4), NO);
        Cases.refused("NO ahead of FULL", FULL_ROOM, x -> x.basis(42, 0), NO);
        Cases.refused("BEYOND ahead of FULL", FULL_ROOM, x -> x.basis(40, 4), BEYOND);
        Cases.refused("BEYOND ahead of FULL", FULL_ROOM, x -> x.basis(2, 0), BEYOND);
        Cases.refused("FULL", FULL_ROOM, x -> x.basis(40, 3), FULL);
    }

    // ---- 12 drop

    static void p12_noneIsThere() {
        Cases.refused("drop()", NEW, FormSeries::drop, MISSING);
        Cases.refused("drop() of all gone", Cases.both(Cases.sums(1), FormSeries::drop), FormSeries::drop, MISSING);
    }

    static void p12_theOnlyOne() {
        FormSeries x = new FormSeries();
        x.sums(4);
        Cases.due("drop()", x.drop(), 0);
        Cases.due("count()", x.count(), 0);
        Cases.due("at(0, 0)", x.at(0, 0), BEYOND);
    }

    static void p12_allOf16() {
        FormSeries x = new FormSeries();
        FULL_ROOM.on(x);
        for (int left = 15; left >= 0; left--) {
            Cases.due("drop()", x.drop(), left);
            Cases.due("look", x.look(left, 0), BEYOND);
            Cases.due("look", left > 0 ? x.look(left - 1, 0) : SUMS, SUMS);
        }
        Cases.due("drop()", x.drop(), MISSING);
    }

    static void p12_itsNumberComesAgain() {
        Cases.Recipe state = x -> {
            x.sums(4);
            x.product(3);
            x.drop();
        };
        Cases.comes("sums(14)", state, x -> x.sums(14), SUMS, 14, 14, Numbers.sums(14));
        Cases.comes("times(0, 0)", state, x -> x.times(0, 0), 8, Numbers.sums(8));
    }

    static void p12_theRowStays() {
        FormSeries x = new FormSeries();
        x.sums(4);
        x.lay(0, 48);
        x.drop();
        Cases.due("row(47)", x.row(47), (int) E4[47]);
        Cases.due("row(48)", x.row(48), BEYOND);
        Cases.due("give(4)", x.give(4), 0);
        Cases.due("look", x.look(0, 2), 0);
    }
}
