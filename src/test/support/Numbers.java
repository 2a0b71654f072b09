/** The document's numbers, reckoned here a second time by the plainest way, so that the program is not asked about itself. */
final class Numbers {
    static final int M = 1000003;
    static final int PLACES = 48;
    static final int[] SIZES = {1, 0, 1, 1, 1, 1, 2, 1, 2, 2, 2, 2, 3, 2, 3, 3, 3, 3, 4, 3, 4};

    private static final long[] D = d();

    private Numbers() {
    }

    static int rest(long x) {
        return (int) Math.floorMod(x, (long) M);
    }

    static int quotient(long a, long b) {
        for (int answer = 0; answer < M; answer++) {
            if (rest(b * answer) == rest(a)) {
                return answer;
            }
        }
        throw new IllegalArgumentException("there is no " + a + " / " + b);
    }

    static long raised(long base, int e) {
        long answer = 1;
        for (int i = 0; i < e; i++) {
            answer = answer * base % M;
        }
        return answer;
    }

    static long[] one() {
        long[] answer = new long[PLACES];
        answer[0] = 1;
        return answer;
    }

    static long[] nought() {
        return new long[PLACES];
    }

    static long[] multiplied(long[] a, long[] b) {
        long[] answer = new long[PLACES];
        for (int i = 0; i < PLACES; i++) {
            for (int j = 0; i + j < PLACES; j++) {
                answer[i + j] = rest(answer[i + j] + a[i] * b[j]);
            }
        }
        return answer;
    }

    static long[] raised(long[] a, int e) {
        long[] answer = one();
        for (int i = 0; i < e; i++) {
            answer = multiplied(answer, a);
        }
        return answer;
    }

    static long[] mixed(long[] a, long x, long[] b, long y) {
        long[] answer = new long[PLACES];
        for (int n = 0; n < PLACES; n++) {
            answer[n] = rest(rest(x) * a[n] + rest(y) * b[n]);
        }
        return answer;
    }

    private static long[] divisorSums(long factor, int power) {
        long[] answer = one();
        for (int n = 1; n < PLACES; n++) {
            for (int d = 1; d <= n; d++) {
                if (n % d == 0) {
                    answer[n] = rest(answer[n] + rest(factor) * raised(d, power));
                }
            }
        }
        return answer;
    }

    static long[] e2() {
        return divisorSums(-24, 1);
    }

    static long[] sums(int k) {
        switch (k) {
            case 4: return divisorSums(240, 3);
            case 6: return divisorSums(-504, 5);
            case 8: return divisorSums(480, 7);
            case 10: return divisorSums(-264, 9);
            case 12: return divisorSums(quotient(65520, 691), 11);
            case 14: return divisorSums(-24, 13);
            default: throw new IllegalArgumentException("no SUMS of WEIGHT " + k);
        }
    }

    static long[] product(int e) {
        return raised(D, e);
    }

    private static long[] d() {
        long[] d = one();
        for (int n = 1; n < PLACES; n++) {
            long[] factor = one();
            factor[n] = M - 1;
            for (int i = 0; i < 24; i++) {
                d = multiplied(d, factor);
            }
        }
        long[] step = new long[PLACES];
        step[1] = 1;
        return multiplied(d, step);
    }

    static int size(int k) {
        return SIZES[k / 2];
    }

    static long[] basis(int k, int i) {
        int left = k - 12 * i;
        int b = left % 4 == 0 ? 0 : 1;
        int a = (left - 6 * b) / 4;
        long[] answer = i == 0 ? one() : product(i);
        return multiplied(multiplied(answer, raised(sums(4), a)), raised(sums(6), b));
    }

    /** The FORM of WEIGHT k that has these numbers at places below SIZE. */
    static long[] formOf(int k, long... first) {
        long[] answer = nought();
        for (int i = 0; i < size(k); i++) {
            answer = mixed(answer, 1, basis(k, i), first[i] - answer[i]);
        }
        return answer;
    }

    static long[] slope(int k, long[] a) {
        long share = quotient(k, 12);
        long[] product = multiplied(e2(), a);
        long[] answer = new long[PLACES];
        for (int n = 0; n < PLACES; n++) {
            answer[n] = rest(n * a[n] - share * product[n]);
        }
        return answer;
    }

    private static long[] slanted(long[] a) {
        long[] answer = new long[PLACES];
        for (int n = 0; n < PLACES; n++) {
            answer[n] = rest(n * a[n]);
        }
        return answer;
    }

    static long[] bracket(int k, long[] a, int l, long[] b) {
        return mixed(multiplied(a, slanted(b)), k, multiplied(slanted(a), b), -l);
    }

    /** What p does to the FORM of WEIGHT k with the numbers a. */
    static long[] prime(int k, long[] a, int p) {
        long[] first = new long[size(k)];
        for (int n = 0; n < first.length; n++) {
            first[n] = rest(a[p * n] + (n % p == 0 ? raised(p, k - 1) * a[n / p] : 0));
        }
        return formOf(k, first);
    }
}
