import java.util.ArrayList;
import java.util.List;
import java.util.function.Consumer;
import java.util.function.ToLongFunction;

/** What the tests by hand share: short ways to fill an object, and to say what is due. */
abstract class Trial {
    static final int BAD = MarkOrder.BAD, STATE = MarkOrder.STATE, FULL = MarkOrder.FULL, NONE = MarkOrder.NONE;
    static final int APART = 0, JOINED = 1, SORTED = 2, BARE = 3, BACK = 4, FIRST = 5;
    static final int CODES = 0, MARKS = 1, PAIRS = 2, OUTCASTS = 3, SINGLES = 4, RULES = 5, UNDONE = 6, BYTES = 7;

    // Bases 0, 1; marks 2 (class 1), 3 and 4 (class 2), 5 (class 5); pairs 6 = 0 2, 7 = 6 3,
    // 8 = 0 1, 9 = 0 3; an outcast 10 = 1 2; singles 11 of 7, 12 of 3, 13 of 1.
    static final String TABLES = "c0;c0;c1;c2;c2;c5;p0 2;p6 3;p0 1;p0 3;x1 2;s7;s3;s1;";
    static final int TABLES_CODES = 14;
    // Code 3 has four pieces, each of them the base 0.
    static final String FOURS = "c0;p0 0;p1 0;p2 0;";

    private static final int[] FAR = {Integer.MIN_VALUE, -1000, 1000, Integer.MAX_VALUE};

    private final Checks checks;

    Trial(String name) {
        checks = new Checks(name);
    }

    /** A call of which one number is left open. */
    interface Ask {
        long of(MarkOrder x, int n);
    }

    final void end() {
        checks.end();
    }

    final void due(String what, long got, long want) {
        checks.due(what, got, want);
    }

    final void holds(String what, boolean stands) {
        checks.holds(what, stands);
    }

    static MarkOrder made(Consumer<MarkOrder> before) {
        MarkOrder x = new MarkOrder();
        before.accept(x);
        return x;
    }

    static void write(MarkOrder x, String text) {
        for (int i = 0; i < text.length(); i++) {
            x.type(text.charAt(i));
        }
    }

    static void tell(MarkOrder x, String text) {
        write(x, text);
        x.tables();
    }

    static long read(String text) {
        MarkOrder x = new MarkOrder();
        write(x, text);
        return x.tables();
    }

    final MarkOrder told(String text) {
        MarkOrder x = new MarkOrder();
        write(x, text);
        holds("tables are read: " + text, x.tables() >= 0);
        return x;
    }

    static void put(MarkOrder x, int t, int... codes) {
        for (int c : codes) {
            x.puts(t, c);
        }
    }

    static void putTimes(MarkOrder x, int t, int c, int times) {
        for (int i = 0; i < times; i++) {
            x.puts(t, c);
        }
    }

    static void clearText(MarkOrder x, int t) {
        for (int i = 0; i < 20 && x.at(t, -1) > 0; i++) {
            x.cuts(t);
        }
    }

    /** Something of everything: typed bytes, texts, a pipe, one image, more changes than can be undone. */
    static void house(MarkOrder x) {
        tell(x, TABLES);
        put(x, 1, 0, 3, 2);
        put(x, 3, 11);
        x.pipes(BACK);
        x.keep(1);
        put(x, 0, 5, 12, 10, 2);
        x.appends(0, 1);
        x.pipes(JOINED);
        x.forms(3, APART);
        x.cuts(1);
        x.puts(2, 8);
        write(x, "c0;c");
    }

    final void dueText(String what, MarkOrder x, int t, int... codes) {
        due(what + ": how many", x.at(t, -1), codes.length);
        for (int i = 0; i < codes.length; i++) {
            due(what + ": code " + i, x.at(t, i), codes[i]);
        }
    }

    final void dueRuled(String what, MarkOrder x, int t, int rule, int... codes) {
        due(what + ": how many", x.ruled(t, rule, -1), codes.length);
        for (int i = 0; i < codes.length; i++) {
            due(what + ": code " + i, x.ruled(t, rule, i), codes[i]);
        }
        due(what + ": none behind", x.ruled(t, rule, codes.length), BAD);
    }

    final void duePiped(String what, MarkOrder x, int t, int... codes) {
        due(what + ": how many", x.piped(t, -1), codes.length);
        for (int i = 0; i < codes.length; i++) {
            due(what + ": code " + i, x.piped(t, i), codes[i]);
        }
        due(what + ": none behind", x.piped(t, codes.length), BAD);
    }

    final void dueSeam(String what, MarkOrder x, int rule, int ahead, int behind, int between) {
        due(what + ": ahead", x.seam(0, 1, rule, 0), ahead);
        due(what + ": behind", x.seam(0, 1, rule, 1), behind);
        due(what + ": between", x.seam(0, 1, rule, 2), between);
    }

    /** Whatever can be seen of the one object can be seen of the other. */
    final void sameLooks(String what, Consumer<MarkOrder> one, Consumer<MarkOrder> other) {
        sameLines(what, Looks.all(one), Looks.all(other));
    }

    final void sameButImages(String what, Consumer<MarkOrder> one, Consumer<MarkOrder> other) {
        sameLines(what, Looks.allButImages(one), Looks.allButImages(other));
    }

    private void sameLines(String what, List<String> want, List<String> got) {
        holds(what + ": as many looks", got.size() == want.size());
        for (int i = 0; i < Math.min(got.size(), want.size()); i++) {
            holds(what + ": " + got.get(i) + ", due is " + want.get(i), got.get(i).equals(want.get(i)));
        }
    }

    /** The call answers so, and all is as if it had not been. */
    final void changesNothing(String what, Consumer<MarkOrder> before, ToLongFunction<MarkOrder> call, long want) {
        due(what, call.applyAsLong(made(before)), want);
        sameLooks(what + " changes nothing", before, before.andThen(call::applyAsLong));
    }

    /** The numbers from low to high are taken; those just and far beyond are BAD, and change nothing. */
    final void range(String call, Consumer<MarkOrder> before, int low, int high, Ask ask) {
        for (int n = low; n <= high; n++) {
            holds(call + " takes " + n, ask.of(made(before), n) != BAD);
        }
        for (int n : beyond(low, high)) {
            changesNothing(call + " of " + n, before, x -> ask.of(x, n), BAD);
        }
    }

    private static List<Integer> beyond(int low, int high) {
        List<Integer> all = new ArrayList<>(List.of(low - 1, high + 1));
        for (int n : FAR) {
            all.add(n);
        }
        return all;
    }
}
