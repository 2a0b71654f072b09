import java.util.Arrays;

/** Promises 23 to 29, rows and status: a case for each boundary that their sentences name, on both sides of it. */
public final class BoundaryRowsTest {
    private static final int M = Numbers.M;
    private static final int NONE = Cases.NONE, MISSING = Cases.MISSING, BEYOND = Cases.BEYOND, BELOW = Cases.BELOW;
    private static final int KIND = Cases.KIND, COPY = Cases.COPY, NO = Cases.NO, FULL = Cases.FULL;
    private static final int LEAST = Cases.LEAST, MOST = Cases.MOST;
    private static final Cases.Recipe NEW = Cases.NEW;
    private static final Cases.Recipe FULL_ROOM = Cases.sums(16);
    private static final Cases.Recipe THREE = Cases.sums(3);
    private static final int[] E4 = ints(Numbers.sums(4));

    public static void main(String[] args) {
        Cases.runAll(BoundaryRowsTest.class, 23, 29);
    }

    private static int[] ints(long[] numbers) {
        int[] answer = new int[numbers.length];
        for (int n = 0; n < numbers.length; n++) {
            answer[n] = (int) numbers[n];
        }
        return answer;
    }

    private static int[] first(int many) {
        return Arrays.copyOf(E4, many);
    }

    /** THE ROW has so many numbers of SUMS 4. */
    private static Cases.Recipe laid(int many) {
        return x -> {
            x.sums(4);
            x.lay(0, many);
        };
    }

    /** THE ROW has just these. */
    private static Cases.Recipe rowOf(int... numbers) {
        return x -> {
            laid(numbers.length).on(x);
            for (int i = 0; i < numbers.length; i++) {
                x.tell(i, numbers[i]);
            }
        };
    }

    // ---- 23 lay

    static void p23_formsBeyond() {
        Cases.refusesFormsBeyond("lay", THREE, (x, f) -> x.lay(f, 3));
        Cases.refusesFormsBeyond("lay of none", THREE, (x, f) -> x.lay(f, 0));
    }

    static void p23_eachLengthFrom0To48() {
        for (int n = 0; n <= 48; n++) {
            int many = n;
            Cases.rowBecomes("lay(0, " + n + ")", Cases.sums(1), x -> x.lay(0, many), n, first(n));
        }
    }

    static void p23_below0() {
        for (int n : new int[] {-1, -2, -48, LEAST}) {
            Cases.refused("lay(0, " + n + ") where it is missing", Cases.sums(1), x -> x.lay(0, n), BELOW);
            Cases.refused("lay(0, " + n + ")", laid(5), x -> x.lay(0, n), BELOW);
        }
    }

    static void p23_above48() {
        for (int n : new int[] {49, 50, 96, MOST}) {
            Cases.refused("lay(0, " + n + ") where it is missing", Cases.sums(1), x -> x.lay(0, n), NO);
            Cases.refused("lay(0, " + n + ")", laid(5), x -> x.lay(0, n), NO);
        }
    }

    static void p23_aRowThatIsThere() {
        Cases.Recipe two = Cases.both(laid(48), x -> x.product(1));
        int[] d = ints(Numbers.product(1));
        Cases.rowBecomes("a shorter one", two, x -> x.lay(1, 3), 3, Arrays.copyOf(d, 3));
        Cases.rowBecomes("an empty one", two, x -> x.lay(1, 0), 0, new int[0]);
        Cases.rowBecomes("as long a one", two, x -> x.lay(1, 48), 48, d);
        Cases.Recipe empty = Cases.both(laid(0), x -> x.product(1));
        Cases.rowBecomes("a longer one", empty, x -> x.lay(1, 48), 48, d);
    }

    static void p23_theLastOf16() {
        Cases.rowBecomes("lay(15, 2)", Cases.both(Cases.sums(15), x -> x.product(1)), x -> x.lay(15, 2), 2, new int[] {0, 1});
    }

    static void p23_refusalsInTheirOrder() {
        Cases.refused("BEYOND ahead of BELOW", Cases.sums(1), x -> x.lay(1, -1), BEYOND);
        Cases.refused("BEYOND ahead of NO", Cases.sums(1), x -> x.lay(-1, 49), BEYOND);
    }

    static void p23_theRowIsNoFormsOwn() {
        FormSeries x = new FormSeries();
        x.sums(4);
        x.lay(0, 48);
        x.tell(47, 5);
        Cases.due("at(0, 47)", x.at(0, 47), E4[47]);
        x.drop();
        x.product(1);
        Cases.due("row(1)", x.row(1), 240);
    }

    // ---- 24 tell

    static void p24_missing() {
        for (int i : new int[] {0, -1, 48, LEAST, MOST}) {
            Cases.refused("tell(" + i + ", 0) at first", NEW, x -> x.tell(i, 0), MISSING);
            Cases.refused("tell(" + i + ", 0), torn", Cases.both(laid(48), FormSeries::tear), x -> x.tell(i, 0), MISSING);
        }
    }

    static void p24_placesOfTheRow() {
        for (int length : new int[] {1, 2, 47, 48}) {
            int[] firstOne = first(length);
            firstOne[0] = 5;
            Cases.rowBecomes("tell(0, 5)", laid(length), x -> x.tell(0, 5), 1, firstOne);
            int[] lastOne = first(length);
            lastOne[length - 1] = 6;
            Cases.rowBecomes("tell the last", laid(length), x -> x.tell(length - 1, 6), 1, lastOne);
        }
    }

    static void p24_placesBeyond() {
        for (int length : new int[] {0, 1, 2, 47, 48}) {
            for (int i : new int[] {-1, length, length + 1, LEAST, MOST}) {
                Cases.refused("tell(" + i + ") of " + length, laid(length), x -> x.tell(i, 5), BEYOND);
            }
        }
    }

    static void p24_restsOfAnyNumber() {
        for (int v : new int[] {0, 2, M - 1, M, M + 2, -1, 2 - M, -M, -M - 1, LEAST, LEAST + 1, MOST, MOST - 1}) {
            Cases.rowBecomes("tell(0, " + v + ")", laid(1), x -> x.tell(0, v), 1, new int[] {Numbers.rest(v)});
        }
    }

    static void p24_theSameOneAgain() {
        for (int v : new int[] {1, M + 1, 1 - M, 1 - 2000 * M, 1 + 2000 * M}) {
            Cases.rowBecomes("tell(0, " + v + ")", laid(1), x -> x.tell(0, v), 0, new int[] {1});
        }
        for (int v : new int[] {0, M, -M}) {
            Cases.rowBecomes("tell(0, " + v + ")", rowOf(0), x -> x.tell(0, v), 0, new int[] {0});
        }
        Cases.rowBecomes("tell(0, -1)", rowOf(M - 1), x -> x.tell(0, -1), 0, new int[] {M - 1});
    }

    // ---- 25 give

    static void p25_missing() {
        for (int k : new int[] {0, 2, 12, 40, 41, -2}) {
            Cases.refused("give(" + k + ") at first", Cases.sums(1), x -> x.give(k), MISSING);
            Cases.refused("give(" + k + "), torn", Cases.both(laid(48), FormSeries::tear), x -> x.give(k), MISSING);
            Cases.refused("give(" + k + ") in no room", FULL_ROOM, x -> x.give(k), MISSING);
        }
    }

    static void p25_asManyAsSizeAndOneLess() {
        int[] numbers = {7, M - 1, 9, 11};
        for (int k = 0; k <= 40; k += 2) {
            int weight = k;
            int size = Numbers.size(k);
            long[] want = Numbers.formOf(k, 7, M - 1, 9, 11);
            Cases.comes("give(" + k + ") of SIZE", rowOf(Arrays.copyOf(numbers, size)), x -> x.give(weight), k, want);
            if (size > 0) {
                Cases.refused("give(" + k + ") of one less", rowOf(Arrays.copyOf(numbers, size - 1)), x -> x.give(weight), NO);
            }
            if (size > 1) {
                Cases.refused("give(" + k + ") of none", laid(0), x -> x.give(weight), NO);
            }
        }
    }

    static void p25_moreThanSizeAreLeftOut() {
        Cases.comes("give(12) of 3", rowOf(0, 1, 999), x -> x.give(12), 12, Numbers.product(1));
        Cases.comes("give(0) of 48", laid(48), x -> x.give(0), 0, Numbers.one());
        Cases.comes("give(2) of 48", laid(48), x -> x.give(2), 2, Numbers.nought());
    }

    static void p25_weight2NeedsNone() {
        Cases.comes("give(2)", laid(0), x -> x.give(2), Cases.CUSP, 2, KIND, Numbers.nought());
    }

    static void p25_kindOfWhatComes() {
        Cases.comes("0 at place 0", rowOf(0, 1), x -> x.give(12), Cases.CUSP, 12, KIND, Numbers.product(1));
        Cases.comes("1 at place 0", rowOf(1), x -> x.give(4), Cases.EVEN, 4, KIND, Numbers.sums(4));
        Cases.comes("all 0", rowOf(0), x -> x.give(4), Cases.CUSP, 4, KIND, Numbers.nought());
        Cases.comes("WEIGHT 0", rowOf(0), x -> x.give(0), Cases.CONST, 0, KIND, Numbers.nought());
    }

    static void p25_weightsBeside() {
        for (int k : Cases.wrongWeights()) {
            Cases.refused("give(" + k + ")", laid(48), x -> x.give(k), NO);
            Cases.refused("give(" + k + ") of none", laid(0), x -> x.give(k), NO);
        }
    }

    static void p25_room() {
        Cases.needsRoom("give(4)", laid(48), x -> x.give(4));
        Cases.needsRoom("give(2)", laid(0), x -> x.give(2));
        Cases.needsRoom("give(40)", laid(4), x -> x.give(40));
    }

    static void p25_refusalsInTheirOrder() {
        Cases.Recipe full = Cases.filled(laid(1), 16);
        Cases.refused("NO ahead of FULL, k", full, x -> x.give(42), NO);
        Cases.refused("NO ahead of FULL, k", full, x -> x.give(3), NO);
        Cases.refused("NO ahead of FULL, fewer", full, x -> x.give(12), NO);
        Cases.refused("FULL", full, x -> x.give(10), FULL);
    }

    // ---- 26 tear

    static void p26_missing() {
        Cases.rowBecomes("tear() at first", NEW, FormSeries::tear, 0, null);
        Cases.rowBecomes("tear() again", Cases.both(laid(3), FormSeries::tear), FormSeries::tear, 0, null);
    }

    static void p26_there() {
        for (int length : new int[] {0, 1, 48}) {
            Cases.rowBecomes("tear() of " + length, laid(length), FormSeries::tear, 1, null);
        }
    }

    static void p26_laidAgain() {
        Cases.rowBecomes("lay", Cases.both(laid(48), FormSeries::tear), x -> x.lay(0, 2), 2, first(2));
        Cases.rowBecomes("tear()", Cases.both(Cases.both(laid(48), FormSeries::tear), laid(0)), FormSeries::tear, 1, null);
    }

    static void p26_aRefusedLayLaysNothing() {
        Cases.rowBecomes("tear()", Cases.both(Cases.sums(1), x -> x.lay(0, 49)), FormSeries::tear, 0, null);
        Cases.rowBecomes("tear()", Cases.both(Cases.sums(1), x -> x.lay(0, -1)), FormSeries::tear, 0, null);
    }

    // ---- 27 row

    static void p27_missing() {
        for (int i : new int[] {0, -1, 48, LEAST, MOST}) {
            Cases.refused("row(" + i + ") at first", NEW, x -> x.row(i), MISSING);
            Cases.refused("row(" + i + "), torn", Cases.both(laid(48), FormSeries::tear), x -> x.row(i), MISSING);
        }
    }

    static void p27_firstAndLast() {
        for (int length : new int[] {1, 2, 47, 48}) {
            Cases.told("row(0)", laid(length), x -> x.row(0), 1);
            Cases.told("the last", laid(length), x -> x.row(length - 1), E4[length - 1]);
        }
    }

    static void p27_beyond() {
        for (int length : new int[] {0, 1, 2, 47, 48}) {
            for (int i : new int[] {-1, length, length + 1, LEAST, MOST}) {
                Cases.refused("row(" + i + ") of " + length, laid(length), x -> x.row(i), BEYOND);
            }
        }
    }

    static void p27_leastAndGreatestNumber() {
        Cases.told("0", rowOf(M), x -> x.row(0), 0);
        Cases.told("1000002", rowOf(-1), x -> x.row(0), 1000002);
    }

    // ---- 28 copy

    static void p28_missing() {
        Cases.refused("copy(0, 0, 0) at first", NEW, x -> x.copy(0, 0, 0), MISSING);
        Cases.refused("copy(0, 0, -1)", NEW, x -> x.copy(0, 0, -1), MISSING);
        Cases.refused("copy(-1, 0, 1)", NEW, x -> x.copy(-1, 0, 1), MISSING);
        Cases.refused("copy(0, 0, 0), torn", Cases.both(laid(48), FormSeries::tear), x -> x.copy(0, 0, 0), MISSING);
    }

    static void p28_countBelow0() {
        for (int n : new int[] {-1, -2, -48, LEAST}) {
            Cases.refused("copy(0, 0, " + n + ")", laid(3), x -> x.copy(0, 0, n), BELOW);
            Cases.refused("copy(3, 3, " + n + ")", laid(3), x -> x.copy(3, 3, n), BELOW);
            Cases.refused("BELOW ahead of COPY", laid(3), x -> x.copy(-1, 4, n), BELOW);
            Cases.refused("copy(0, 0, " + n + ") of an empty one", laid(0), x -> x.copy(0, 0, n), BELOW);
        }
    }

    /** Every i, j, n about a row of four numbers. */
    static void p28_eachAboutFour() {
        int[] row = {5, 6, 7, 8};
        for (int n = 0; n <= 5; n++) {
            for (int i = -1; i <= 5; i++) {
                for (int j = -1; j <= 5; j++) {
                    copies(row, i, j, n);
                }
            }
        }
    }

    private static void copies(int[] row, int i, int j, int n) {
        String call = "copy(" + i + ", " + j + ", " + n + ")";
        if (i < 0 || j < 0 || i + n > row.length || j + n > row.length) {
            Cases.refused(call, rowOf(row), x -> x.copy(i, j, n), COPY);
            return;
        }
        int[] want = row.clone();
        for (int m = 0; m < n; m++) {
            want[j + m] = row[i + m];
        }
        Cases.rowBecomes(call, rowOf(row), x -> x.copy(i, j, n), n, want);
    }

    static void p28_allOf48() {
        int[] on = new int[48];
        int[] back = new int[48];
        for (int n = 0; n < 48; n++) {
            on[n] = E4[Math.max(0, n - 1)];
            back[n] = E4[Math.min(47, n + 1)];
        }
        Cases.rowBecomes("copy(0, 1, 47)", laid(48), x -> x.copy(0, 1, 47), 47, on);
        Cases.rowBecomes("copy(1, 0, 47)", laid(48), x -> x.copy(1, 0, 47), 47, back);
        Cases.rowBecomes("copy(0, 0, 48)", laid(48), x -> x.copy(0, 0, 48), 48, first(48));
        Cases.rowBecomes("copy(48, 48, 0)", laid(48), x -> x.copy(48, 48, 0), 0, first(48));
        Cases.refused("copy(0, 1, 48)", laid(48), x -> x.copy(0, 1, 48), COPY);
        Cases.refused("copy(1, 0, 48)", laid(48), x -> x.copy(1, 0, 48), COPY);
        Cases.refused("copy(0, 0, 49)", laid(48), x -> x.copy(0, 0, 49), COPY);
        Cases.refused("copy(49, 0, 0)", laid(48), x -> x.copy(49, 0, 0), COPY);
        Cases.refused("copy(0, 49, 0)", laid(48), x -> x.copy(0, 49, 0), COPY);
    }

    static void p28_ofAnEmptyRow() {
        Cases.rowBecomes("copy(0, 0, 0)", laid(0), x -> x.copy(0, 0, 0), 0, new int[0]);
        Cases.refused("copy(0, 0, 1)", laid(0), x -> x.copy(0, 0, 1), COPY);
        Cases.refused("copy(1, 0, 0)", laid(0), x -> x.copy(1, 0, 0), COPY);
        Cases.refused("copy(0, 1, 0)", laid(0), x -> x.copy(0, 1, 0), COPY);
    }

    /** What stood in a longer row before is not within a shorter one. */
    static void p28_behindAShorterRow() {
        Cases.Recipe shorter = Cases.both(laid(48), x -> x.lay(0, 3));
        Cases.refused("copy(3, 0, 1)", shorter, x -> x.copy(3, 0, 1), COPY);
        Cases.refused("copy(0, 3, 1)", shorter, x -> x.copy(0, 3, 1), COPY);
        Cases.rowBecomes("copy(2, 0, 1)", shorter, x -> x.copy(2, 0, 1), 1, new int[] {2160, 240, 2160});
    }

    /** i + n and j + n would wrap around to below 0. */
    static void p28_sumsPastTheLargestInt() {
        int[] large = {MOST, MOST - 1, MOST - 2, 1 << 30};
        for (int a : large) {
            for (int b : large) {
                Cases.refused("copy(" + a + ", 0, " + b + ")", laid(3), x -> x.copy(a, 0, b), COPY);
                Cases.refused("copy(0, " + a + ", " + b + ")", laid(3), x -> x.copy(0, a, b), COPY);
            }
            Cases.refused("copy(" + a + ", 0, 1)", laid(3), x -> x.copy(a, 0, 1), COPY);
            Cases.refused("copy(0, " + a + ", 3)", laid(3), x -> x.copy(0, a, 3), COPY);
            Cases.refused("copy(1, 1, " + a + ")", laid(3), x -> x.copy(1, 1, a), COPY);
        }
        Cases.refused("copy(least, 0, most)", laid(3), x -> x.copy(LEAST, 0, MOST), COPY);
        Cases.refused("copy(0, least, most)", laid(3), x -> x.copy(0, LEAST, MOST), COPY);
        Cases.refused("copy(least, least, 0)", laid(3), x -> x.copy(LEAST, LEAST, 0), COPY);
    }

    // ---- 29 status

    static void p29_eachRefusalByItself() {
        Cases.Recipe[] refusals = {
            x -> x.drop(), x -> x.slope(0), x -> x.copy(0, 0, -1), x -> x.look(0, 4), x -> x.copy(0, 0, 2), x -> x.size(1), x -> x.power(0, 11)
        };
        for (int by = MISSING; by >= FULL; by--) {
            Cases.Recipe refusal = refusals[MISSING - by];
            Cases.Recipe state = by == MISSING || by == BEYOND ? NEW : by == KIND ? Cases.basisOf(4) : laid(1);
            for (int other = MISSING; other >= FULL; other--) {
                int asked = other;
                Cases.told("status(" + other + ")", Cases.both(state, refusal), x -> x.status(asked), other == by ? 1 : 0);
            }
        }
    }

    static void p29_otherNumbers() {
        for (int by : new int[] {NONE, 0, 1, 2, 8, -9, -10, LEAST, LEAST + 2, MOST}) {
            Cases.refused("status(" + by + ")", NEW, x -> x.status(by), NO);
        }
    }

    static void p29_leastAndGreatest() {
        Cases.told("status(-2)", FormSeries::drop, x -> x.status(-2), 1);
        Cases.told("status(-8)", Cases.sums(18), x -> x.status(-8), 2);
    }

    static void p29_noneIsNoRefusal() {
        Cases.Recipe state = x -> {
            Cases.nought(12).on(x);
            x.look(0, 2);
            x.apart(0, 0);
            x.own(0, 2);
        };
        for (int by = FULL; by <= MISSING; by++) {
            int asked = by;
            Cases.told("status(" + by + ")", state, x -> x.status(asked), 0);
        }
    }

    static void p29_upTo511() {
        FormSeries x = new FormSeries();
        for (int call = 0; call < 511; call++) {
            x.drop();
        }
        Cases.due("status(MISSING)", x.status(MISSING), 511);
        x = new FormSeries();
        for (int call = 0; call < 511; call++) {
            x.status(0);
        }
        Cases.due("status(NO)", x.status(NO), 511);
    }

    static void p29_aRefusedCallCountsOnce() {
        Cases.told("status(BEYOND)", x -> x.at(-1, 48), x -> x.status(BEYOND), 1);
        Cases.told("status(NO)", x -> x.squares(0, 100), x -> x.status(NO), 1);
        Cases.told("status(BEYOND)", x -> x.add(1, 0, 1, 0), x -> x.status(BEYOND), 1);
    }
}
