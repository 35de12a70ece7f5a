import java.lang.annotation.Retention;
import java.lang.annotation.RetentionPolicy;
import java.lang.reflect.InvocationTargetException;
import java.lang.reflect.Method;
import java.util.ArrayList;
import java.util.Arrays;
import java.util.Comparator;
import java.util.List;
import java.util.Set;
import java.util.TreeSet;
import java.util.function.Supplier;
import java.util.function.ToIntFunction;

/**
 * What the tests of boundary cases share. A test is a method that bears the document's words in
 * {@code @Says}, and a name that tells where they stand: a place (see Document), the number of
 * the sentence in it, and the case: promise02_2_FULL_text0 is of promise 2, sentence 2, "FULL".
 */
abstract class Boundaries {
    static final int NONE = -1, BAD = -2, NOT = -3, FULL = -4;
    static final int NULL = -11, INDEX = -12, CAST = -13, STORE = -14, SIZE = -15;
    static final int ANY_BAD = -100002, ANY_NOT = -100003, ANY_FULL = -100004;
    static final int LEAST = Integer.MIN_VALUE, MOST = Integer.MAX_VALUE;

    private static final StackWalker STACK = StackWalker.getInstance();

    private final Set<String> failed = new TreeSet<>();
    private String running = "";
    private int asked = 0;

    @Retention(RetentionPolicy.RUNTIME)
    @interface Says {
        String value();
    }

    static List<Method> testsOf(Class<? extends Boundaries> tests) {
        List<Method> all = new ArrayList<>();
        for (Method method : tests.getDeclaredMethods()) {
            if (method.isAnnotationPresent(Says.class)) {
                all.add(method);
            }
        }
        all.sort(Comparator.comparing(Method::getName));
        return all;
    }

    static String saidBy(Method test) {
        return test.getAnnotation(Says.class).value();
    }

    /** Runs all tests; ends the program with 1 if an answer is not the one that is due. */
    final void runAll() {
        Set<String> wrong = failures();
        System.out.println(testsOf(getClass()).size() + " boundary cases, " + asked + " answers asked, "
            + wrong.size() + " cases failed");
        if (!wrong.isEmpty()) {
            System.exit(1);
        }
    }

    /** The names of the tests that fail. */
    final Set<String> failures() {
        for (Method test : testsOf(getClass())) {
            running = test.getName();
            int before = asked;
            try {
                test.invoke(this);
            } catch (InvocationTargetException e) {
                fail("threw " + e.getCause() + " at " + Arrays.toString(e.getCause().getStackTrace()), test);
            } catch (IllegalAccessException e) {
                throw new IllegalStateException(e);
            }
            if (asked == before) {
                fail("asks nothing", test);
            }
            if (failed.contains(running)) {
                System.out.println("    where the document says: " + saidBy(test));
            }
        }
        return failed;
    }

    private void fail(String what, Object where) {
        failed.add(running);
        System.out.println(running + ": " + what + " (" + where + ")");
    }

    // ---- what the tests say

    final void due(long got, long want) {
        asked++;
        if (got != want) {
            StackWalker.StackFrame test = STACK.walk(frames -> frames
                .filter(f -> f.getMethodName().equals(running)).findFirst().orElseThrow());
            fail("answered " + got + ", due is " + want, test);
        }
    }

    /** Asks a call that is to be refused: it may change nothing but, by a FINDING, count() 8. */
    final void refused(int want, Supplier<SoldWithIt> made, ToIntFunction<SoldWithIt> call) {
        refused(want, want <= NULL && want >= SIZE ? -10 - want : 0, made, call);
    }

    final void refused(int want, ToIntFunction<SoldWithIt> call) {
        refused(want, Boundaries::rich, call);
    }

    final void refused(int want, int finding, Supplier<SoldWithIt> made, ToIntFunction<SoldWithIt> call) {
        SoldWithIt untouched = made.get();
        SoldWithIt x = made.get();
        due(call.applyAsInt(x), want);
        due(x.count(8), finding != 0 ? finding : untouched.count(8));
        alike(x, untouched);
    }

    /** Both are to answer the same, but count() 8; they are used up by that. */
    final void alike(SoldWithIt x, SoldWithIt y) {
        due(allOf(x).equals(allOf(y)) ? 1 : 0, 1);
    }

    /**
     * What can be asked of an object but count() 8, for comparing; it is used up by that. It takes
     * some 300 calls of the 512 that an object has.
     */
    static List<Long> allOf(SoldWithIt x) {
        List<Long> all = new ArrayList<>();
        for (int what = 0; what < 8; what++) {
            all.add((long) x.count(what));
        }
        int people = x.count(1);
        for (int who = -2; who < people; who++) {
            all.add((long) x.rest(who));
            all.add((long) x.were(who));
        }
        for (int p = 0; p < people; p++) {
            for (int who = -1; who < people; who++) {
                all.add((long) x.best(p, who));
            }
        }
        all.add((long) x.bed());
        all.add((long) x.forget());
        addSheets(x, all);
        for (int undone = 0; undone <= 12; undone++) {
            all.add(x.digest());
            all.add((long) x.undo());
        }
        addTastes(x, all);
        for (int what = 0; what < 3; what++) {
            all.add((long) x.law(what, 1));
        }
        return all;
    }

    private static void addSheets(SoldWithIt x, List<Long> all) {
        for (int s = 0; s < 4; s++) {
            for (int form = 0; form < 3; form++) {
                int item = 0;
                for (int i = 0; i <= 48 && item != LEAST; i++) {
                    item = x.get(s, form, i);
                    all.add((long) item);
                }
            }
            all.add((long) x.lose(s));
        }
    }

    private static void addTastes(SoldWithIt x, List<Long> all) {
        for (int a = 0; a < 8; a++) {
            for (int b = 0; b < 8; b++) {
                all.add((long) x.worth(a, b, 0));
                all.add((long) x.like(a, b, 0));
            }
        }
    }

    // ---- what the tests make

    static SoldWithIt street(String houses, String people) {
        SoldWithIt x = new SoldWithIt();
        type(x, 0, houses);
        type(x, 1, people);
        return x;
    }

    static void type(SoldWithIt x, int text, String bytes) {
        for (int i = 0; i < bytes.length(); i++) {
            x.type(text, bytes.charAt(i));
        }
    }

    static void fill(SoldWithIt x, int s, int form, int... items) {
        x.sheet(s, form, items.length);
        for (int i = 0; i < items.length; i++) {
            x.put(s, form, i, items[i]);
        }
    }

    static void tellSales(SoldWithIt x, int house, int buyer, int times) {
        for (int i = 0; i < times; i++) {
            x.sale(house, buyer);
        }
    }

    /** Something is told of everything; SHEET 3 is LOST, and that was the latest FINDING. */
    static SoldWithIt rich() {
        SoldWithIt x = street("05;13;27", "o0g1l2");
        x.law(2, 0);
        x.worth(0, 1, 4);
        x.worth(1, 2, -3);
        x.worth(7, 6, 2);
        x.like(0, 1, 3);
        x.like(1, 2, -1);
        x.like(2, 0, 5);
        x.sale(0, 1);
        x.sale(1, 2);
        x.fact(0, 1);
        fill(x, 0, 0, 1, 2, 0);
        fill(x, 1, 1, 300, -2);
        fill(x, 2, 2, 0, 1, 1000000, 2, 1);
        x.lose(3);
        return x;
    }

    /** HOUSES 0 to 7, each its own OWNER's, with the OWNER in the next one: a ring. */
    static SoldWithIt ring() {
        return street("00;11;22;33;44;55;66;77", "o1o2o3o4o5o6o7o0");
    }
}
