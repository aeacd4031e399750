/** Long runs of calls, the same on the class and on the model: every answer must be the same. */
public final class ModelTest {
    private static final Checks CHECKS = new Checks("ModelTest");
    private static final int RUNS = 6000, CALLS = 512;
    // The most calls that one step makes, and that telling tables makes.
    private static final int STEP_CALLS = 2, TELL_CALLS = 160;
    private static final int[] SEEN_FIXED = new int[20];

    private final Draws draws;
    private final int run;
    private final MarkOrder x = new MarkOrder();
    private final Model model = new Model();
    private int calls = 0;

    private ModelTest(int run) {
        this.run = run;
        this.draws = new Draws(run);
    }

    public static void main(String[] args) {
        for (int run = 1; run <= RUNS && CHECKS.isClean(); run++) {
            new ModelTest(run).go();
        }
        CHECKS.holds("pipes that come to rest late were met", SEEN_FIXED[3] > 0);
        CHECKS.holds("pipes that never come to rest were met", SEEN_FIXED[10] > 0);
        CHECKS.end();
    }

    private void due(String call, long got, long want) {
        calls++;
        CHECKS.due("run " + run + ", call " + calls + ": " + call, got, want);
    }

    private void go() {
        while (calls <= CALLS - STEP_CALLS && CHECKS.isClean()) {
            if (calls == 0 || calls <= CALLS - TELL_CALLS && draws.below(150) == 0) {
                tell();
            } else {
                step();
            }
        }
    }

    private void tell() {
        String text = new TableTexts(draws).next();
        if (draws.below(8) != 0) {
            due("clear()", x.clear(), model.clear());
        }
        for (int i = 0; i < text.length(); i++) {
            due("type()", x.type(text.charAt(i)), model.type(text.charAt(i)));
        }
        due("tables() of " + text, x.tables(), model.tables());
        for (int what = 0; what < 5; what++) {
            due("count(" + what + ")", x.count(what), model.count(what));
        }
    }

    private int text() {
        return draws.rarely(60) ? draws.wild(4) : draws.below(4);
    }

    private int rule() {
        return draws.rarely(60) ? draws.wild(6) : draws.below(6);
    }

    private int code() {
        int codes = model.count(0);
        return codes == 0 || draws.rarely(60) ? draws.wild(codes) : draws.below(codes);
    }

    private int place() {
        return draws.rarely(60) ? draws.wild(70) : draws.below(draws.rarely(4) ? 66 : 12) - 1;
    }

    private void step() {
        int kind = draws.below(24);
        if (kind < 6) {
            int t = text();
            int c = code();
            due("puts(" + t + ", " + c + ")", x.puts(t, c), model.puts(t, c));
        } else if (kind < 12) {
            change(kind);
        } else if (kind < 20) {
            ask(kind);
        } else {
            askOfPipe(kind);
        }
    }

    private void change(int kind) {
        int t = text();
        int n = rule();
        int u = text();
        if (kind == 6) {
            due("cuts(" + t + ")", x.cuts(t), model.cuts(t));
        } else if (kind == 7) {
            due("appends(" + t + ", " + u + ")", x.appends(t, u), model.appends(t, u));
        } else if (kind == 8) {
            due("forms(" + t + ", " + n + ")", x.forms(t, n), model.forms(t, n));
        } else if (kind == 9) {
            due("undo()", x.undo(), model.undo());
        } else if (kind == 10) {
            int image = draws.rarely(20) ? draws.wild(2) : draws.below(2);
            due("keep(" + image + ")", x.keep(image), model.keep(image));
        } else if (draws.rarely(3)) {
            int image = draws.rarely(20) ? draws.wild(2) : draws.below(2);
            due("back(" + image + ")", x.back(image), model.back(image));
        }
    }

    private void ask(int kind) {
        int t = text();
        int u = text();
        int n = rule();
        int i = place();
        if (kind == 12) {
            due("at(" + t + ", " + i + ")", x.at(t, i), model.at(t, i));
        } else if (kind <= 14) {
            due("ruled(" + t + ", " + n + ", " + i + ")", x.ruled(t, n, i), model.ruled(t, n, i));
        } else if (kind == 15) {
            int form = draws.rarely(20) ? draws.wild(2) : draws.below(2);
            due("quick(" + t + ", " + form + ")", x.quick(t, form), model.quick(t, form));
        } else if (kind == 16) {
            due("same(" + t + ", " + u + ", " + n + ")", x.same(t, u, n), model.same(t, u, n));
        } else if (kind == 17) {
            int what = draws.rarely(20) ? draws.wild(3) : draws.below(3);
            due("seam(" + t + ", " + u + ", " + n + ", " + what + ")", x.seam(t, u, n, what), model.seam(t, u, n, what));
        } else if (kind == 18) {
            due("spellings(" + t + ")", x.spellings(t), model.spellings(t));
        } else {
            askOfCodes();
        }
    }

    private void askOfCodes() {
        int a = code();
        int b = code();
        int what = draws.rarely(20) ? draws.wild(9) : draws.below(9);
        due("pair(" + a + ", " + b + ")", x.pair(a, b), model.pair(a, b));
        due("code(" + a + ", " + what + ")", x.code(a, what), model.code(a, what));
    }

    private void askOfPipe(int kind) {
        int t = text();
        if (kind == 20) {
            int n = rule();
            due("pipes(" + n + ")", x.pipes(n), model.pipes(n));
        } else if (kind == 21) {
            int i = place();
            due("piped(" + t + ", " + i + ")", x.piped(t, i), model.piped(t, i));
        } else if (kind == 22) {
            int want = model.fixed(t);
            SEEN_FIXED[want < 0 ? 10 : want]++;
            due("fixed(" + t + ")", x.fixed(t), want);
        } else if (draws.rarely(3)) {
            due("unpipe()", x.unpipe(), model.unpipe());
        } else {
            int what = draws.rarely(20) ? draws.wild(8) : draws.below(8);
            due("count(" + what + ")", x.count(what), model.count(what));
        }
    }
}
