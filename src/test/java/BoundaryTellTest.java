/** Promises 13 to 22, what is told: a case for each boundary that their sentences name, on both sides of it. */
public final class BoundaryTellTest {
    private static final int M = Numbers.M;
    private static final int NONE = Cases.NONE, BEYOND = Cases.BEYOND, KIND = Cases.KIND, NO = Cases.NO, FULL = Cases.FULL;
    private static final int LEAST = Cases.LEAST, MOST = Cases.MOST;
    private static final int[] PRIMES = {2, 3, 5, 7, 11};
    private static final Cases.Recipe NEW = Cases.NEW;
    private static final Cases.Recipe FULL_ROOM = Cases.sums(16);
    private static final Cases.Recipe THREE = Cases.sums(3);
    private static final Cases.Recipe ONE = Cases.basisOf(0);
    private static final Cases.Recipe D = x -> x.product(1);

    public static void main(String[] args) {
        Cases.runAll(BoundaryTellTest.class, 13, 22);
    }

    private static Cases.Recipe basis(int k, int i) {
        return x -> x.basis(k, i);
    }

    // ---- 13 look

    static void p13_formsBeyond() {
        for (int what = 0; what <= 4; what++) {
            int which = what;
            Cases.refusesFormsBeyond("look of " + what, THREE, (x, f) -> x.look(f, which));
        }
    }

    static void p13_theLastOf16() {
        Cases.Recipe full = x -> {
            Cases.sums(15).on(x);
            x.product(2);
        };
        Cases.told("look(15, 0)", full, x -> x.look(15, 0), Cases.PRODUCT);
        Cases.told("look(15, 1)", full, x -> x.look(15, 1), 24);
        Cases.told("look(15, 2)", full, x -> x.look(15, 2), 2);
        Cases.told("look(15, 3)", full, x -> x.look(15, 3), 3);
        Cases.told("look(15, 4)", full, x -> x.look(15, 4), 2);
    }

    static void p13_kinds() {
        Cases.told("EVEN", Cases.basisOf(12), x -> x.look(0, 0), 0);
        Cases.told("SUMS", x -> x.sums(12), x -> x.look(0, 0), 1);
        Cases.told("PRODUCT", D, x -> x.look(0, 0), 2);
        Cases.told("CONST", ONE, x -> x.look(0, 0), 3);
        Cases.told("CONST, all 0", Cases.nought(0), x -> x.look(0, 0), 3);
        Cases.told("CUSP", basis(12, 1), x -> x.look(0, 0), 4);
        Cases.told("CUSP, all 0", Cases.nought(12), x -> x.look(0, 0), 4);
        Cases.told("CUSP, WEIGHT 2", Cases.nought(2), x -> x.look(0, 0), 4);
    }

    static void p13_weights() {
        for (int k = 0; k <= 40; k += 2) {
            Cases.told("WEIGHT " + k, Cases.nought(k), x -> x.look(0, 1), k);
        }
    }

    static void p13_leastPlace() {
        for (int i = 0; i < 4; i++) {
            Cases.told("BASIS " + i, basis(40, i), x -> x.look(0, 2), i);
        }
        for (int k = 0; k <= 40; k += 2) {
            Cases.told("all 0", Cases.nought(k), x -> x.look(0, 2), NONE);
        }
        Cases.told("the greatest NUMBER is not 0", Cases.both(ONE, x -> x.add(0, -1, 0, 0)), x -> x.look(1, 2), 0);
    }

    static void p13_sizes() {
        for (int k = 0; k <= 40; k += 2) {
            Cases.told("SIZE of WEIGHT " + k, Cases.nought(k), x -> x.look(0, 3), Numbers.SIZES[k / 2]);
        }
    }

    static void p13_asTheyWereTold() {
        for (int k = 4; k <= 14; k += 2) {
            int weight = k;
            Cases.told("SUMS " + k, x -> x.sums(weight), x -> x.look(0, 4), k);
        }
        for (int e = 1; e <= 3; e++) {
            int power = e;
            Cases.told("PRODUCT " + e, x -> x.product(power), x -> x.look(0, 4), e);
        }
    }

    static void p13_otherKindsWereToldNothing() {
        Cases.refused("EVEN", Cases.basisOf(12), x -> x.look(0, 4), KIND);
        Cases.refused("CUSP", basis(12, 1), x -> x.look(0, 4), KIND);
        Cases.refused("CONST", ONE, x -> x.look(0, 4), KIND);
        Cases.refused("EVEN that is the same as SUMS", Cases.both(Cases.sums(1), x -> x.power(0, 1)), x -> x.look(1, 4), KIND);
        Cases.refused("CUSP that is the same as D", Cases.both(D, x -> x.power(0, 1)), x -> x.look(1, 4), KIND);
        Cases.Recipe again = x -> {
            x.sums(4);
            x.sums(6);
            x.drop();
            x.power(0, 2);
        };
        Cases.refused("EVEN where SUMS stood", again, x -> x.look(1, 4), KIND);
    }

    static void p13_whatBesides() {
        for (int what : new int[] {-1, 5, -2, 6, LEAST, MOST}) {
            Cases.refused("look(0, " + what + ") of SUMS", Cases.sums(1), x -> x.look(0, what), NO);
            Cases.refused("look(0, " + what + ") of EVEN", Cases.basisOf(12), x -> x.look(0, what), NO);
        }
    }

    static void p13_refusalsInTheirOrder() {
        Cases.refused("BEYOND ahead of KIND", Cases.basisOf(12), x -> x.look(1, 4), BEYOND);
        Cases.refused("BEYOND ahead of NO", Cases.basisOf(12), x -> x.look(1, 5), BEYOND);
        Cases.refused("BEYOND ahead of NO", Cases.basisOf(12), x -> x.look(-1, -1), BEYOND);
    }

    // ---- 14 at

    static void p14_formsBeyond() {
        Cases.refusesFormsBeyond("at", THREE, (x, f) -> x.at(f, 0));
        Cases.refusesFormsBeyond("at the last place", THREE, (x, f) -> x.at(f, 47));
    }

    static void p14_place0And47() {
        Cases.Recipe state = Cases.both(THREE, x -> x.sums(6));
        Cases.told("at(3, 0)", state, x -> x.at(3, 0), 1);
        Cases.told("at(3, 47)", state, x -> x.at(3, 47), Numbers.sums(6)[47]);
        Cases.told("at(0, 47)", state, x -> x.at(0, 47), Numbers.sums(4)[47]);
    }

    static void p14_placesBeyond() {
        for (int n : new int[] {-1, 48, -47, 49, LEAST, MOST}) {
            Cases.refused("at(0, " + n + ")", Cases.sums(1), x -> x.at(0, n), BEYOND);
            Cases.refused("at(1, " + n + "), both beyond", Cases.sums(1), x -> x.at(1, n), BEYOND);
        }
    }

    static void p14_leastAndGreatestNumber() {
        Cases.told("0", D, x -> x.at(0, 0), 0);
        Cases.told("1000002", Cases.both(ONE, x -> x.add(0, -1, 0, 0)), x -> x.at(1, 0), 1000002);
        Cases.told("1000003 is 0", Cases.both(ONE, x -> x.add(0, 1000003, 0, 0)), x -> x.at(1, 0), 0);
        Cases.told("1000004 is 1", Cases.both(ONE, x -> x.add(0, 1000004, 0, 0)), x -> x.at(1, 0), 1);
    }

    static void p14_theLastOf16() {
        Cases.told("at(15, 1)", FULL_ROOM, x -> x.at(15, 1), 240);
    }

    // ---- 15 part

    static void p15_formsBeyond() {
        Cases.refusesFormsBeyond("part", THREE, (x, f) -> x.part(f, 0));
    }

    static void p15_eachPartOfEachBasis() {
        for (int k = 0; k <= 40; k += 2) {
            for (int i = 0; i < Numbers.size(k); i++) {
                for (int j = 0; j < Numbers.size(k); j++) {
                    int which = j;
                    Cases.told("part " + j + " of BASIS " + i + " of " + k, basis(k, i), x -> x.part(0, which), i == j ? 1 : 0);
                }
            }
        }
    }

    static void p15_partsBeyond() {
        for (int k = 0; k <= 40; k += 2) {
            for (int i : new int[] {-1, Numbers.size(k), Numbers.size(k) + 1, LEAST, MOST}) {
                Cases.refused("part " + i + " of WEIGHT " + k, Cases.nought(k), x -> x.part(0, i), BEYOND);
            }
        }
    }

    static void p15_weight2HasNone() {
        Cases.refused("part(0, 0)", Cases.nought(2), x -> x.part(0, 0), BEYOND);
    }

    static void p15_bothBeyond() {
        Cases.refused("part(1, 4)", Cases.sums(1), x -> x.part(1, 4), BEYOND);
        Cases.refused("part(-1, -1)", Cases.sums(1), x -> x.part(-1, -1), BEYOND);
    }

    static void p15_greatestPart() {
        Cases.told("1000002", Cases.both(basis(40, 3), x -> x.add(0, -1, 0, 0)), x -> x.part(1, 3), 1000002);
    }

    // ---- 16 same

    static void p16_formsBeyond() {
        Cases.refusesFormsBeyond("same, f", THREE, (x, f) -> x.same(f, 0));
        Cases.refusesFormsBeyond("same, g", THREE, (x, g) -> x.same(0, g));
        Cases.refusesFormsBeyond("same, both", THREE, (x, f) -> x.same(f, f));
    }

    static void p16_withItself() {
        Cases.told("same(15, 15)", FULL_ROOM, x -> x.same(15, 15), 1);
        Cases.told("same of all 0", Cases.nought(2), x -> x.same(0, 0), 1);
    }

    static void p16_ofOneWeight() {
        Cases.Recipe state = x -> {
            x.sums(8);
            x.basis(8, 0);
            x.add(0, 2, 0, 0);
            x.add(0, 0, 0, 0);
        };
        Cases.told("of other KINDS", state, x -> x.same(0, 1), 1);
        Cases.told("one twice the other", state, x -> x.same(0, 2), 0);
        Cases.told("one all 0", state, x -> x.same(0, 3), 0);
        Cases.told("one all 0", state, x -> x.same(3, 0), 0);
    }

    static void p16_unlikeAtTheLastPlaceBelowSizeAlone() {
        Cases.Recipe state = x -> {
            x.basis(40, 0);
            x.basis(40, 3);
            x.add(0, 1, 1, 1);
        };
        Cases.told("same(0, 2)", state, x -> x.same(0, 2), 0);
    }

    static void p16_ofUnlikeWeights() {
        Cases.Recipe noughts = x -> {
            Cases.nought(2).on(x);
            x.slope(0);
            x.sums(4);
            x.basis(0, 0);
            x.add(3, 0, 3, 0);
        };
        Cases.told("both all 0", noughts, x -> x.same(0, 1), 1);
        Cases.told("both all 0, WEIGHT 0", noughts, x -> x.same(4, 0), 1);
        Cases.told("the first all 0", noughts, x -> x.same(0, 2), 0);
        Cases.told("the other all 0", noughts, x -> x.same(2, 0), 0);
        Cases.told("neither all 0", noughts, x -> x.same(2, 3), 0);
        Cases.Recipe ones = x -> {
            x.product(3);
            x.basis(38, 0);
            x.add(1, 0, 1, 0);
        };
        Cases.told("0 at the first three places", ones, x -> x.same(0, 2), 0);
    }

    // ---- 17 apart

    static void p17_formsBeyond() {
        Cases.refusesFormsBeyond("apart, f", THREE, (x, f) -> x.apart(f, 0));
        Cases.refusesFormsBeyond("apart, g", THREE, (x, g) -> x.apart(0, g));
        Cases.refusesFormsBeyond("apart, both", THREE, (x, f) -> x.apart(f, f));
    }

    static void p17_thereIsNone() {
        Cases.told("apart(15, 15)", FULL_ROOM, x -> x.apart(15, 15), NONE);
        Cases.told("apart(0, 15)", FULL_ROOM, x -> x.apart(0, 15), NONE);
        Cases.told("apart of all 0", Cases.nought(2), x -> x.apart(0, 0), NONE);
    }

    static void p17_eachFirstPlace() {
        for (int i = 0; i < 4; i++) {
            Cases.Recipe state = Cases.both(basis(40, i), x -> x.add(0, 0, 0, 0));
            Cases.told("BASIS " + i + " and all 0", state, x -> x.apart(0, 1), i);
            Cases.told("all 0 and BASIS " + i, state, x -> x.apart(1, 0), i);
        }
    }

    static void p17_unlikeWeights() {
        Cases.Recipe state = Cases.both(Cases.nought(2), x -> {
            x.slope(0);
            x.sums(4);
            x.sums(6);
        });
        Cases.refused("both all 0", state, x -> x.apart(0, 1), NO);
        Cases.refused("WEIGHTS 4 and 6", state, x -> x.apart(2, 3), NO);
        Cases.refused("WEIGHTS 6 and 4", state, x -> x.apart(3, 2), NO);
        Cases.told("WEIGHTS 4 and 4", state, x -> x.apart(1, 2), 0);
    }

    static void p17_beyondAheadOfNo() {
        Cases.refused("apart(0, 1)", Cases.basisOf(4), x -> x.apart(0, 1), BEYOND);
        Cases.refused("apart(1, 0)", Cases.basisOf(4), x -> x.apart(1, 0), BEYOND);
    }

    // ---- 18 size

    static void p18_eachWeight() {
        for (int k = 0; k <= 40; k += 2) {
            int weight = k;
            Cases.told("size(" + k + ")", NEW, x -> x.size(weight), Numbers.SIZES[k / 2]);
        }
    }

    static void p18_weightsBeside() {
        for (int k : Cases.wrongWeights()) {
            Cases.refused("size(" + k + ")", NEW, x -> x.size(k), NO);
        }
        for (int k = 1; k <= 39; k += 2) {
            int odd = k;
            Cases.refused("size(" + k + ")", NEW, x -> x.size(odd), NO);
        }
    }

    static void p18_noRoomIsNeeded() {
        Cases.told("size(40)", FULL_ROOM, x -> x.size(40), 4);
    }

    // ---- 19 own

    static void p19_formsBeyond() {
        Cases.refusesFormsBeyond("own", THREE, (x, f) -> x.own(f, 2));
    }

    static void p19_sumsAreOwn() {
        for (int k = 4; k <= 14; k += 2) {
            int weight = k;
            for (int p : PRIMES) {
                Cases.told(p + " of SUMS " + k, x -> x.sums(weight), x -> x.own(0, p), Numbers.rest(1 + Numbers.raised(p, k - 1)));
            }
        }
    }

    static void p19_theProductIsOwnToThe1Alone() {
        for (int p : PRIMES) {
            Cases.told(p + " of D", D, x -> x.own(0, p), Numbers.product(1)[p]);
            Cases.told(p + " of D squared", x -> x.product(2), x -> x.own(0, p), NONE);
            Cases.told(p + " of D to the 3", x -> x.product(3), x -> x.own(0, p), NONE);
        }
    }

    static void p19_allNought() {
        for (int k = 4; k <= 40; k += 2) {
            for (int p : PRIMES) {
                Cases.told(p + " of WEIGHT " + k, Cases.nought(k), x -> x.own(0, p), NONE);
            }
        }
    }

    static void p19_eachNumberTimesItIsOwnToo() {
        Cases.told("1000002 times D", Cases.both(D, x -> x.add(0, -1, 0, 0)), x -> x.own(1, 2), M - 24);
        Cases.told("D and D", Cases.both(D, x -> x.add(0, 1, 0, 1)), x -> x.own(1, 2), M - 24);
        Cases.told("D less D", Cases.both(D, x -> x.add(0, 1, 0, -1)), x -> x.own(1, 2), NONE);
    }

    /** The FORM of WEIGHT 36 .. 40 that is unlike L times f at its last place below SIZE alone. */
    static void p19_unlikeAtTheLastPlaceAlone() {
        for (int p : PRIMES) {
            long[] a = Numbers.basis(40, 3);
            long[] does = Numbers.prime(40, a, p);
            boolean own = does[0] == 0 && does[1] == 0 && does[2] == 0;
            Cases.told(p + " of BASIS 3", basis(40, 3), x -> x.own(0, p), own ? does[3] : NONE);
        }
    }

    static void p19_otherNumbersThanThePrimes() {
        for (int p : Cases.wrongPrimes()) {
            Cases.refused("own(0, " + p + ")", D, x -> x.own(0, p), NO);
        }
    }

    static void p19_weight4AndLess() {
        for (int p : PRIMES) {
            Cases.refused("WEIGHT 0", ONE, x -> x.own(0, p), NO);
            Cases.refused("WEIGHT 2", Cases.nought(2), x -> x.own(0, p), NO);
            Cases.told("WEIGHT 4", Cases.sums(1), x -> x.own(0, p), 1 + p * p * p);
        }
    }

    static void p19_beyondAheadOfNo() {
        Cases.refused("own(1, 4)", ONE, x -> x.own(1, 4), BEYOND);
        Cases.refused("own(-1, 13)", ONE, x -> x.own(-1, 13), BEYOND);
    }

    static void p19_noRoomIsNeeded() {
        Cases.told("own(15, 2)", FULL_ROOM, x -> x.own(15, 2), 9);
        Cases.told("status(FULL)", Cases.both(FULL_ROOM, x -> x.own(15, 2)), x -> x.status(FULL), 0);
    }

    // ---- 20 trace

    private static int traceOf(int k, int p, int from) {
        long sum = 0;
        for (int i = from; i < Numbers.size(k); i++) {
            long[] does = Numbers.prime(k, Numbers.basis(k, i), p);
            long part = 0;
            for (int j = 0; j <= i; j++) {
                part = does[j];
                does = Numbers.mixed(does, 1, Numbers.basis(k, j), -part);
            }
            sum += part;
        }
        return Numbers.rest(sum);
    }

    static void p20_eachWeightAndPrime() {
        for (int k = 4; k <= 40; k += 2) {
            int weight = k;
            for (int p : PRIMES) {
                Cases.told("trace(" + k + ", " + p + ", false)", NEW, x -> x.trace(weight, p, false), traceOf(k, p, 0));
                Cases.told("trace(" + k + ", " + p + ", true)", NEW, x -> x.trace(weight, p, true), traceOf(k, p, 1));
            }
        }
    }

    static void p20_noCuspOnes() {
        for (int k : new int[] {4, 6, 8, 10, 14}) {
            for (int p : PRIMES) {
                Cases.told("trace(" + k + ", " + p + ", true)", NEW, x -> x.trace(k, p, true), 0);
            }
        }
        Cases.told("the first with one", NEW, x -> x.trace(12, 2, true), M - 24);
        Cases.told("and the next", NEW, x -> x.trace(16, 2, true), 216);
    }

    static void p20_weightsBeside() {
        for (boolean cusp : new boolean[] {false, true}) {
            for (int k : Cases.wrongWeights()) {
                Cases.refused("trace(" + k + ")", NEW, x -> x.trace(k, 2, cusp), NO);
            }
            Cases.refused("trace(0)", NEW, x -> x.trace(0, 2, cusp), NO);
            Cases.refused("trace(2)", NEW, x -> x.trace(2, 2, cusp), NO);
            Cases.refused("trace(5)", NEW, x -> x.trace(5, 2, cusp), NO);
        }
    }

    static void p20_otherNumbersThanThePrimes() {
        for (int p : Cases.wrongPrimes()) {
            Cases.refused("trace(12, " + p + ", true)", NEW, x -> x.trace(12, p, true), NO);
            Cases.refused("trace(4, " + p + ", false)", NEW, x -> x.trace(4, p, false), NO);
        }
    }

    static void p20_bothWrongCountOnce() {
        Cases.refused("trace(2, 4, true)", NEW, x -> x.trace(2, 4, true), NO);
    }

    static void p20_noRoomIsNeeded() {
        Cases.told("trace(40, 11, true)", FULL_ROOM, x -> x.trace(40, 11, true), traceOf(40, 11, 1));
    }

    // ---- 21 squares

    private static int waysOf(int s, int n) {
        if (s == 0) {
            return n == 0 ? 1 : 0;
        }
        int ways = 0;
        for (int root = -9; root <= 9; root++) {
            if (root * root <= n) {
                ways += waysOf(s - 1, n - root * root);
            }
        }
        return ways;
    }

    static void p21_upTo4Squares() {
        FormSeries x = new FormSeries();
        for (int s = 1; s <= 4; s++) {
            for (int n = 0; n < 100; n++) {
                Cases.due("squares(" + s + ", " + n + ")", x.squares(s, n), waysOf(s, n));
            }
        }
    }

    static void p21_from5To8Squares() {
        FormSeries x = new FormSeries();
        for (int s = 5; s <= 8; s++) {
            for (int n = 0; n < 100; n++) {
                int want = 0;
                for (int m = 0; m <= n; m++) {
                    want += keptWaysOf(4, m) * keptWaysOf(s - 4, n - m);
                }
                Cases.due("squares(" + s + ", " + n + ")", x.squares(s, n), want);
            }
        }
    }

    private static final int[][] WAYS = new int[5][100];

    /** Kept, as counting anew takes long; one more than they are, as 0 says that they are not counted yet. */
    private static int keptWaysOf(int s, int n) {
        if (WAYS[s][n] == 0) {
            WAYS[s][n] = waysOf(s, n) + 1;
        }
        return WAYS[s][n] - 1;
    }

    static void p21_ofNought() {
        for (int s = 1; s <= 8; s++) {
            int many = s;
            Cases.told("squares(" + s + ", 0)", NEW, x -> x.squares(many, 0), 1);
        }
    }

    static void p21_belowAndAbove0AndOrderCount() {
        Cases.told("1 is -1 and 1 squared", NEW, x -> x.squares(1, 1), 2);
        Cases.told("1 stands at either place", NEW, x -> x.squares(2, 1), 4);
        Cases.told("5 is 1 and 4, 4 and 1, by four signs", NEW, x -> x.squares(2, 5), 8);
    }

    static void p21_notByRests() {
        Cases.told("squares(8, 99)", NEW, x -> x.squares(8, 99), 16133184);
    }

    static void p21_onlyOneSquareAndTheLastOfIt() {
        Cases.told("81", NEW, x -> x.squares(1, 81), 2);
        Cases.told("99", NEW, x -> x.squares(1, 99), 0);
    }

    static void p21_sBeside() {
        for (int s : new int[] {0, 9, -1, -8, 10, LEAST, MOST}) {
            for (int n : new int[] {0, 1, 99}) {
                Cases.refused("squares(" + s + ", " + n + ")", NEW, x -> x.squares(s, n), NO);
            }
        }
    }

    static void p21_nBeside() {
        for (int n : new int[] {-1, 100, -99, 101, LEAST, MOST}) {
            for (int s : new int[] {1, 8}) {
                Cases.refused("squares(" + s + ", " + n + ")", NEW, x -> x.squares(s, n), NO);
            }
        }
    }

    static void p21_bothWrongCountOnce() {
        Cases.refused("squares(0, 100)", NEW, x -> x.squares(0, 100), NO);
    }

    static void p21_oneCallDoesNotTouchTheNext() {
        FormSeries x = new FormSeries();
        Cases.due("squares(8, 99)", x.squares(8, 99), 16133184);
        Cases.due("squares(1, 99)", x.squares(1, 99), 0);
        Cases.due("squares(1, 0)", x.squares(1, 0), 1);
        Cases.due("squares(8, 99)", x.squares(8, 99), 16133184);
    }

    // ---- 22 count

    static void p22_from0To16() {
        for (int many = 0; many <= 16; many++) {
            Cases.told("count()", Cases.sums(many), FormSeries::count, many);
        }
    }

    static void p22_neverAbove16() {
        Cases.told("count()", Cases.sums(17), FormSeries::count, 16);
    }

    static void p22_neverBelow0() {
        Cases.told("count()", FormSeries::drop, FormSeries::count, 0);
        Cases.told("count()", Cases.both(Cases.sums(1), x -> {
            x.drop();
            x.drop();
        }), FormSeries::count, 0);
    }
}
