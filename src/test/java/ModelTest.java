import java.util.ArrayList;
import java.util.List;

/** Long runs of calls, by a fixed row of numbers, asked of the class and of PlainStreet. */
public final class ModelTest {
    private static final int RUNS = 900, CALLS = 400;
    private static final int[] ODD = {-1, -2, -3, 8, 9, 10, 48, 49, 255, 256, -10,
        Integer.MIN_VALUE, Integer.MAX_VALUE, 1 << 30};

    private final Numbers numbers;
    private final SoldWithIt x = new SoldWithIt();
    private final PlainStreet plain = new PlainStreet();
    private final List<String> run = new ArrayList<>();
    private boolean wrong = false;

    private ModelTest(long seed) {
        numbers = new Numbers(seed);
    }

    public static void main(String[] args) {
        int runs = args.length > 0 ? Integer.parseInt(args[0]) : RUNS;
        long from = args.length > 1 ? Long.parseLong(args[1]) : 1;
        int failed = 0;
        for (long seed = from; seed < from + runs && failed < 3; seed++) {
            ModelTest test = new ModelTest(seed);
            test.go();
            failed += test.wrong ? 1 : 0;
        }
        System.out.println(runs + " runs against the plain model, " + failed + " failed");
        if (failed != 0) {
            System.exit(1);
        }
    }

    private void go() {
        // Sizes are drawn once a run, so that both the small and the large are met.
        int houses = numbers.below(9);
        int people = numbers.below(3) == 0 ? numbers.below(9) : numbers.below(5);
        tell(houses, people);
        if (numbers.below(2) == 0) {
            tastes();
        }
        for (int i = 0; i < CALLS && !wrong; i++) {
            if (numbers.below(40) == 0) {
                tell(numbers.below(6), numbers.below(6));
            }
            call(x.count(0) > 4 && x.count(1) > 2 ? 12 : 1);
        }
        due("digest()", x.digest(), plain.digest());
    }

    private void tell(int houses, int people) {
        typeWiped(0);
        typeWiped(1);
        for (int h = 0; h < houses; h++) {
            if (h > 0) {
                type(0, ';');
            }
            type(0, '0' + (numbers.below(4) == 0 ? numbers.below(8) : numbers.below(Math.max(1, people))));
            type(0, '0' + numbers.below(10));
        }
        for (int p = 0; p < people; p++) {
            type(1, "ogl".charAt(numbers.below(3)));
            type(1, numbers.below(7) == 0 ? '-' : '0' + numbers.below(Math.min(8, houses + 1)));
        }
    }

    private void tastes() {
        for (int a = 0; a < 8; a++) {
            for (int b = 0; b < 8; b++) {
                int w = taste(), l = taste();
                due("worth(" + a + ", " + b + ", " + w + ")", x.worth(a, b, w), plain.worth(a, b, w));
                due("like(" + a + ", " + b + ", " + l + ")", x.like(a, b, l), plain.like(a, b, l));
            }
        }
    }

    private void typeWiped(int text) {
        due("wipe(" + text + ")", x.wipe(text), plain.wipe(text));
    }

    private void type(int text, int b) {
        due("type(" + text + ", " + b + ")", x.type(text, b), plain.type(text, b));
    }

    /** A number below n, or now and then an odd one. */
    private int some(int n) {
        return numbers.below(25) == 0 ? ODD[numbers.below(ODD.length)] : numbers.below(n);
    }

    private int person() {
        return some(Math.max(1, x.count(1)));
    }

    private int house() {
        return some(Math.max(1, x.count(0)));
    }

    private int taste() {
        return some(19) - 9;
    }

    /** Calls that try all places are dear for the plain model: asked once in so many times. */
    private void call(int dear) {
        int which = numbers.below(44);
        boolean ask = numbers.below(dear) == 0;
        if (which < 16) {
            change(which);
        } else if (which < 28) {
            askOfStreet(which);
        } else if (which < 36) {
            askOfPlaces(which, ask);
        } else {
            useSheets(which);
        }
    }

    private void change(int which) {
        int a = some(8), b = some(8), v = taste();
        switch (which) {
            case 0: {
                int text = some(2), c = numbers.below(3) == 0 ? some(256) : "0;og-".charAt(numbers.below(5));
                if (numbers.below(4) == 0) {
                    type(text, c);
                }
                break;
            }
            case 1: due("law(" + a % 4 + ")", x.law(a % 4, b % 3), plain.law(a % 4, b % 3)); break;
            case 2: case 3: case 4: case 5: {
                int h = numbers.below(6) == 0 ? a : house(), p = numbers.below(6) == 0 ? b : person();
                due("sale(" + h + ", " + p + ")", x.sale(h, p), plain.sale(h, p));
                break;
            }
            case 6: due("undo()", x.undo(), plain.undo()); break;
            case 7: case 8: case 9: case 10:
                due("worth(" + a + ", " + b + ", " + v + ")", x.worth(a, b, v), plain.worth(a, b, v)); break;
            case 11: case 12: case 13:
                due("like(" + a + ", " + b + ", " + v + ")", x.like(a, b, v), plain.like(a, b, v)); break;
            case 14: {
                int p = numbers.below(9) == 0 ? a : person(), k = numbers.below(9) == 0 ? b : person();
                due("fact(" + p + ", " + k + ")", x.fact(p, k), plain.fact(p, k));
                break;
            }
            default: due("forget()", x.forget(), plain.forget()); break;
        }
    }

    private void askOfStreet(int which) {
        int h = house(), g = house(), p = person(), what = some(3), k = some(x.count(4) + 1);
        int bits = some(1 << x.count(1)), dinner = some(256) & ~(p >= 0 && p < 8 ? 1 << p : 0);
        switch (which) {
            case 16: due("house(" + h + ", " + what + ")", x.house(h, what), plain.house(h, what)); break;
            case 17: due("person(" + p + ", " + what + ")", x.person(p, what), plain.person(p, what)); break;
            case 18: due("whose(" + h + ", " + k + ")", x.whose(h, k), plain.whose(h, k)); break;
            case 19: due("keeper(" + p + ", " + k + ")", x.keeper(p, k), plain.keeper(p, k)); break;
            case 20: due("sold(" + p + ", " + k + ")", x.sold(p, k), plain.sold(p, k)); break;
            case 21: due("length(" + k + ")", x.length(k), plain.length(k)); break;
            case 22: due("out(" + p + ")", x.out(p), plain.out(p)); break;
            case 23: due("value(" + h + ", " + p + ")", x.value(h, p), plain.value(h, p)); break;
            case 24: due("change(" + h + ", " + g + ")", x.change(h, g), plain.change(h, g)); break;
            case 25: due("come(" + p + ", " + dinner + ")", x.come(p, dinner), plain.come(p, dinner)); break;
            case 26: due("invite(" + p + ", " + bits + ")", x.invite(p, bits), plain.invite(p, bits)); break;
            default: due("digest()", x.digest(), plain.digest()); break;
        }
    }

    private void askOfPlaces(int which, boolean ask) {
        int p = person(), who = numbers.below(2) == 0 ? -1 : person(), s = some(4);
        if (!ask && which < 33) {
            return;
        }
        switch (which) {
            case 28: due("best(" + p + ", " + who + ")", x.best(p, who), plain.best(p, who)); break;
            case 29: due("rest(" + who + ")", x.rest(who), plain.rest(who)); break;
            case 30: due("rest(-2)", x.rest(-2), plain.rest(-2)); break;
            case 31: due("were(" + who + ")", x.were(who), plain.were(who)); break;
            case 32: due("bed()", x.bed(), plain.bed()); break;
            case 33: due("gain(" + p + ")", x.gain(p), plain.gain(p)); break;
            case 34: due("should(" + s + ")", x.should(s), plain.should(s)); break;
            default: goalAndShould(s); break;
        }
    }

    /** A row of owners that may well be asked for. */
    private void goalAndShould(int s) {
        int n = x.count(0);
        due("sheet(" + s + ", 0, " + n + ")", x.sheet(s, 0, n), plain.sheet(s, 0, n));
        int favourite = person();
        for (int h = 0; h < n; h++) {
            int owner = numbers.below(3) == 0 ? person() : numbers.below(2) == 0 ? x.house(h, 0) : favourite;
            due("put(" + s + ", 0, " + h + ", " + owner + ")", x.put(s, 0, h, owner), plain.put(s, 0, h, owner));
        }
        due("should(" + s + ")", x.should(s), plain.should(s));
    }

    private void useSheets(int which) {
        int s = some(4), t = some(4), form = some(3), n = some(12), i = some(12), j = some(12);
        int v = numbers.below(2) == 0 ? some(8) : (int) numbers.next();
        switch (which) {
            case 36: due("sheet(" + s + ", " + form + ", " + n + ")", x.sheet(s, form, n), plain.sheet(s, form, n)); break;
            case 37: case 38: due("put(" + s + ", " + form + ", " + i + ", " + v + ")",
                x.put(s, form, i, v), plain.put(s, form, i, v)); break;
            case 39: due("get(" + s + ", " + form + ", " + i + ")", x.get(s, form, i), plain.get(s, form, i)); break;
            case 40: due("copy(" + s + ", " + i + ", " + t + ", " + j + ", " + n + ")",
                x.copy(s, i, t, j, n), plain.copy(s, i, t, j, n)); break;
            case 41: due("write(" + s + ")", x.write(s), plain.write(s)); break;
            case 42: due("read(" + s + ")", x.read(s), plain.read(s)); break;
            default:
                if (numbers.below(6) == 0) {
                    due("lose(" + s + ")", x.lose(s), plain.lose(s));
                }
                due("fault(" + t % 3 + ")", x.fault(t % 3), plain.fault(t % 3));
                due("count(" + i + ")", x.count(i), plain.count(i));
                due("count(8)", x.count(8), plain.count(8));
                break;
        }
    }

    private void due(String call, long got, long want) {
        if (wrong) {
            return;
        }
        run.add(call + " -> " + got);
        if (got != want) {
            wrong = true;
            System.out.println("a run: " + run);
            System.out.println("its last call answered " + got + ", the plain model says " + want);
        }
    }

    /** The same numbers in every run of the test. */
    private static final class Numbers {
        private long state;

        Numbers(long seed) {
            state = seed * 0x9E3779B97F4A7C15L + 1;
        }

        long next() {
            state = state * 6364136223846793005L + 1442695040888963407L;
            long mixed = (state ^ state >>> 29) * 0xBF58476D1CE4E5B9L;
            return mixed ^ mixed >>> 32;
        }

        int below(int n) {
            return (int) Long.remainderUnsigned(next(), n);
        }
    }
}
