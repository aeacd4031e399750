import java.util.ArrayList;
import java.util.List;

/**
 * What holds for every call: none throws or goes on for ever, for any numbers in any state (rule 7 of
 * LANGUAGE.md); each object is for itself, and the same calls give the same answers (rule 13).
 */
public final class AnyCallTest {
    private static final Checks CHECKS = new Checks("AnyCallTest");
    private static final int RUNS = 300, CALLS = 512, BEYOND = 5000;
    private static final int[] WILD = {
        Integer.MIN_VALUE, Integer.MIN_VALUE + 1, -1000, -10, -9, -3, -2, -1, 7, 8, 9, 10, 15, 16, 17, 23, 24, 25,
        63, 64, 65, 127, 128, 149, 150, 151, 255, 256, 1 << 16, 1 << 30, Integer.MAX_VALUE - 1, Integer.MAX_VALUE};
    // These two take away what other calls have built up, so they come seldom.
    private static final int TABLES = 2, PUTS = 5, BACK = 11;

    public static void main(String[] args) {
        wildNumbersEverywhere();
        farBeyondTheLastCall();
        eachObjectIsForItself();
        CHECKS.end();
    }

    private static int number(Draws draws, boolean wild) {
        return wild ? WILD[draws.below(WILD.length)] : draws.below(draws.rarely(3) ? 14 : 4);
    }

    private static Call drawn(Draws draws, int wildOneOf) {
        int kind = draws.below(Call.KINDS);
        if ((kind == TABLES || kind == BACK) && !draws.rarely(20)) {
            kind = PUTS;
        }
        boolean wild = draws.rarely(wildOneOf);
        return new Call(kind, number(draws, wild), number(draws, wild), number(draws, wild), number(draws, wild));
    }

    private static List<Call> run(int seed, int calls, int wildOneOf) {
        Draws draws = new Draws(seed);
        List<Call> all = new ArrayList<>();
        String text = Trial.TABLES;
        for (int i = 0; i < text.length(); i++) {
            all.add(new Call(0, text.charAt(i), 0, 0, 0));
        }
        all.add(new Call(TABLES, 0, 0, 0, 0));
        while (all.size() < calls) {
            all.add(drawn(draws, wildOneOf));
        }
        return all;
    }

    /** The answer; a call that throws is told, and answers what no call does. */
    private static long answer(MarkOrder x, Call call) {
        try {
            return call.on(x);
        } catch (RuntimeException | Error thrown) {
            CHECKS.holds(call + " threw " + thrown, false);
            return Long.MIN_VALUE;
        }
    }

    private static List<Long> answers(List<Call> calls) {
        MarkOrder x = new MarkOrder();
        List<Long> all = new ArrayList<>();
        for (Call call : calls) {
            all.add(answer(x, call));
        }
        return all;
    }

    private static void wildNumbersEverywhere() {
        for (int seed = 1; seed <= RUNS; seed++) {
            for (long answer : answers(run(seed, CALLS, 2))) {
                CHECKS.holds("an answer that can be: " + answer, answer >= -160 && answer <= 1000000000000000000L);
            }
        }
        for (int kind = 0; kind < Call.KINDS; kind++) {
            for (int n : WILD) {
                answer(new MarkOrder(), new Call(kind, n, n, n, n));
                MarkOrder x = new MarkOrder();
                Trial.house(x);
                answer(x, new Call(kind, n, n, n, n));
            }
        }
    }

    /** What an object answers behind its 512th call is free, but it still answers. */
    private static void farBeyondTheLastCall() {
        for (int seed = 1; seed <= 20; seed++) {
            CHECKS.due("all calls are answered", answers(run(seed, BEYOND, 10)).size(), BEYOND);
        }
    }

    private static void eachObjectIsForItself() {
        for (int seed = 1; seed <= RUNS; seed++) {
            List<Call> one = run(seed, CALLS, 30);
            List<Call> other = run(seed + RUNS, CALLS, 30);
            List<Long> dueOfOne = answers(one);
            List<Long> dueOfOther = answers(other);
            MarkOrder x = new MarkOrder();
            MarkOrder y = new MarkOrder();
            for (int i = 0; i < CALLS; i++) {
                CHECKS.due("in turn, one: " + one.get(i), answer(x, one.get(i)), dueOfOne.get(i));
                CHECKS.due("in turn, other: " + other.get(i), answer(y, other.get(i)), dueOfOther.get(i));
            }
        }
    }
}
