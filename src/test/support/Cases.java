import java.lang.reflect.InvocationTargetException;
import java.lang.reflect.Method;
import java.util.ArrayList;
import java.util.Arrays;
import java.util.Comparator;
import java.util.List;

/**
 * What the boundary tests have in common. A case is a method named p and its promise's number. It looks at one call in a
 * state that a recipe makes; the state is made anew for each glance at it, as an object answers 512 calls alone.
 */
final class Cases {
    static final int NONE = -1, MISSING = -2, BEYOND = -3, BELOW = -4, KIND = -5, COPY = -6, NO = -7, FULL = -8;
    static final int EVEN = 0, SUMS = 1, PRODUCT = 2, CONST = 3, CUSP = 4;
    static final int LEAST = Integer.MIN_VALUE, MOST = Integer.MAX_VALUE;
    static final Recipe NEW = x -> { };

    private static String name = "";
    private static int wrong = 0;

    interface Recipe {
        void on(FormSeries x);
    }

    interface Call {
        int on(FormSeries x);
    }

    interface CallOf {
        int on(FormSeries x, int number);
    }

    private Cases() {
    }

    /** Runs each case of a class; each promise from .. to must have one. */
    static void runAll(Class<?> tests, int from, int to) {
        Method[] methods = tests.getDeclaredMethods();
        Arrays.sort(methods, Comparator.comparing(Method::getName));
        int[] cases = new int[30];
        for (Method method : methods) {
            if (method.getName().matches("p\\d\\d_.*")) {
                cases[Integer.parseInt(method.getName().substring(1, 3))]++;
                run(method);
            }
        }
        int all = 0;
        for (int promise = from; promise <= to; promise++) {
            name = "promise " + promise;
            due("its cases are there", cases[promise] > 0 ? 1 : 0, 1);
            all += cases[promise];
        }
        System.out.println(wrong == 0 ? all + " cases hold" : wrong + " answers are not as due");
        if (wrong != 0) {
            System.exit(1);
        }
    }

    private static void run(Method method) {
        name = method.getName();
        try {
            method.invoke(null);
        } catch (InvocationTargetException | IllegalAccessException e) {
            fail("threw " + (e.getCause() == null ? e : e.getCause()));
        }
    }

    private static void fail(String what) {
        wrong++;
        System.out.println(name + ": " + what);
    }

    static void due(String call, long got, long want) {
        if (got != want) {
            fail(call + " answered " + got + ", due is " + want);
        }
    }

    // ---- states

    static Recipe both(Recipe first, Recipe then) {
        return x -> {
            first.on(x);
            then.on(x);
        };
    }

    static Recipe sums(int many) {
        return x -> {
            for (int i = 0; i < many; i++) {
                x.sums(4);
            }
        };
    }

    /** So many FORMS: what the recipe makes, and SUMS 4 behind it. */
    static Recipe filled(Recipe first, int many) {
        return x -> {
            first.on(x);
            for (int i = x.count(); i < many; i++) {
                x.sums(4);
            }
        };
    }

    /** The FORM of a WEIGHT that is all 0 comes as number 0; its WEIGHT is 0 or above. */
    static Recipe nought(int weight) {
        return both(sums(1), x -> {
            x.lay(0, 4);
            for (int i = 0; i < 4; i++) {
                x.tell(i, 0);
            }
            x.drop();
            x.give(weight);
            x.tear();
        });
    }

    static Recipe basisOf(int... weights) {
        return x -> {
            for (int weight : weights) {
                x.basis(weight, 0);
            }
        };
    }

    // ---- what is seen of a state

    private static FormSeries made(Recipe state) {
        FormSeries x = new FormSeries();
        state.on(x);
        return x;
    }

    private static int[] statuses(Recipe state) {
        FormSeries x = made(state);
        int[] answer = new int[9];
        for (int by = FULL; by <= MISSING; by++) {
            answer[-by] = x.status(by);
        }
        return answer;
    }

    private static List<int[]> forms(Recipe state) {
        List<int[]> answer = new ArrayList<>();
        int count = made(state).count();
        for (int f = 0; f < count; f++) {
            FormSeries x = made(state);
            int[] seen = new int[53];
            for (int what = 0; what < 5; what++) {
                seen[what] = x.look(f, what);
            }
            for (int n = 0; n < 48; n++) {
                seen[5 + n] = x.at(f, n);
            }
            answer.add(seen);
        }
        if (made(state).look(count, 0) != BEYOND) {
            fail("there are more FORMS than count() has");
        }
        return answer;
    }

    /** null: it is missing. */
    private static int[] theRow(Recipe state) {
        FormSeries x = made(state);
        int[] numbers = new int[50];
        int length = 0;
        while (length < numbers.length) {
            int number = x.row(length);
            if (number == MISSING) {
                return null;
            }
            if (number == BEYOND) {
                break;
            }
            numbers[length++] = number;
        }
        return Arrays.copyOf(numbers, length);
    }

    private static void dueForms(String call, List<int[]> got, List<int[]> want) {
        due("how many FORMS there are behind " + call, got.size(), want.size());
        for (int f = 0; f < Math.min(got.size(), want.size()); f++) {
            if (!Arrays.equals(got.get(f), want.get(f))) {
                fail(call + " changed FORM " + f + ": " + Arrays.toString(got.get(f)));
            }
        }
    }

    private static void dueStatuses(String call, Recipe state, Recipe after) {
        int[] got = statuses(after);
        int[] want = statuses(state);
        if (!Arrays.equals(got, want)) {
            fail(call + " changed status(): " + Arrays.toString(got));
        }
    }

    private static void dueRow(String call, Recipe state, Recipe after) {
        int[] got = theRow(after);
        if (!Arrays.equals(got, theRow(state))) {
            fail(call + " changed THE ROW: " + Arrays.toString(got));
        }
    }

    // ---- cases

    /** The call is refused so; it changes nothing but status(), and that by one. */
    static void refused(String call, Recipe state, Call made, int by) {
        Recipe after = both(state, made::on);
        due(call, made.on(made(state)), by);
        dueForms(call, forms(after), forms(state));
        dueRow(call, state, after);
        int[] want = statuses(state);
        want[-by]++;
        int[] got = statuses(after);
        if (!Arrays.equals(got, want)) {
            fail("status() behind " + call + ": " + Arrays.toString(got) + ", due is " + Arrays.toString(want));
        }
    }

    /** The call answers so, and changes nothing. */
    static void told(String call, Recipe state, Call made, long answer) {
        Recipe after = both(state, made::on);
        due(call, made.on(made(state)), answer);
        dueForms(call, forms(after), forms(state));
        dueRow(call, state, after);
        dueStatuses(call, state, after);
    }

    /** A FORM comes, behind those that are there; nothing else changes. told: what look answers of 4. */
    static void comes(String call, Recipe state, Call made, int kind, int weight, int told, long[] numbers) {
        Recipe after = both(state, made::on);
        List<int[]> want = forms(state);
        due(call, made.on(made(state)), want.size());
        int[] form = new int[53];
        form[0] = kind;
        form[1] = weight;
        form[2] = NONE;
        form[3] = Numbers.size(weight);
        form[4] = told;
        for (int n = 47; n >= 0; n--) {
            form[5 + n] = (int) numbers[n];
            form[2] = numbers[n] != 0 ? n : form[2];
        }
        want.add(form);
        dueForms(call, forms(after), want);
        dueForms(call + " where another stood", forms(both(both(state, Cases::comeAndGo), made::on)), want);
        dueRow(call, state, after);
        dueStatuses(call, state, after);
    }

    /** A FORM stood where the next one will: nothing of it may be left. */
    private static void comeAndGo(FormSeries x) {
        x.sums(14);
        x.drop();
    }

    /** Likewise, of what is made of others. */
    static void comes(String call, Recipe state, Call made, int weight, long[] numbers) {
        comes(call, state, made, weight == 0 ? CONST : numbers[0] == 0 ? CUSP : EVEN, weight, KIND, numbers);
    }

    /** THE ROW has these numbers then and no more; null: it is missing. Nothing else changes. */
    static void rowBecomes(String call, Recipe state, Call made, int answer, int[] numbers) {
        Recipe after = both(state, made::on);
        due(call, made.on(made(state)), answer);
        int[] got = theRow(after);
        if (!Arrays.equals(got, numbers)) {
            fail("THE ROW behind " + call + ": " + Arrays.toString(got) + ", due is " + Arrays.toString(numbers));
        }
        dueForms(call, forms(after), forms(state));
        dueStatuses(call, state, after);
    }

    /** Number f of a FORM: below 0, at how many there are, at the last that there could be, and behind it. */
    static void refusesFormsBeyond(String call, Recipe threeForms, CallOf made) {
        for (int f : new int[] {-1, 3, 4, 15, 16, LEAST, MOST}) {
            refused(call + " of FORM " + f, threeForms, x -> made.on(x, f), BEYOND);
        }
        Recipe less = both(threeForms, FormSeries::drop);
        refused(call + " of a FORM that has gone", less, x -> made.on(x, 2), BEYOND);
        refused(call + " where there are none", NEW, x -> made.on(x, 0), BEYOND);
        refused(call + " of FORM 16 of 16", filled(threeForms, 16), x -> made.on(x, 16), BEYOND);
    }

    /** The 16th FORM comes by the call, the 17th doesn't; when one has gone, there is room again. */
    static void needsRoom(String call, Recipe state, Call made) {
        Recipe almost = filled(state, 15);
        due(call + " as the 16th", made.on(made(almost)), 15);
        due("count()", made(both(almost, made::on)).count(), 16);
        Recipe full = filled(state, 16);
        refused(call + " as the 17th", full, made, FULL);
        due(call + " where one has gone", made.on(made(both(full, FormSeries::drop))), 15);
    }

    /** WEIGHTS even and 0 .. 40 alone. */
    static int[] wrongWeights() {
        return new int[] {-2, -1, -4, 1, 3, 11, 39, 41, 42, 43, 44, LEAST, LEAST + 1, MOST, MOST - 1};
    }

    /** Beside each PRIME, and behind the last. */
    static int[] wrongPrimes() {
        return new int[] {-11, -2, -1, 0, 1, 4, 6, 8, 9, 10, 12, 13, 17, LEAST, MOST};
    }
}
