import java.util.function.Consumer;

/** The boundaries that the document names for the pipe, images and counts: promises 18 to 24, and 512 calls. */
public final class PipeImageEdgesTest extends Trial {
    private static final int ROOM = 16, PIPE_ROOM = 4, LAST_RULE = 5, LAST_CALL = 512;
    // By this table and this pipe a mark behind bases goes one base ahead each time.
    private static final String STEPS = "c0;c1;p0 1;";

    private PipeImageEdgesTest() {
        super("PipeImageEdgesTest");
    }

    public static void main(String[] args) {
        new PipeImageEdgesTest().go();
    }

    private void go() {
        pipesTakesRules();
        pipesIsFullAt4();
        unpipeEmptiesThePipeAlone();
        pipedTakesTextsAndPlaces();
        pipedWithoutRules();
        pipedGoesFromRuleToRule();
        pipedHasRoomFor64();
        fixedTakesTexts();
        fixedIs0To9();
        fixedByOneRule();
        fixedNever();
        keepTakesImages();
        keepTwice();
        keepCountsAllTexts();
        backTakesImages();
        backNeedsAnImage();
        backBringsTextsAndThePipe();
        backLeavesNothingToUndo();
        backLeavesAllElse();
        imagesAreGoneWithTheTables();
        countTakesWhats();
        countsAtTheirEnds();
        theLastCall();
        end();
    }

    private static Consumer<MarkOrder> pipe(int... rules) {
        return x -> {
            for (int rule : rules) {
                x.pipes(rule);
            }
        };
    }

    /** The house's pipe has two rules. */
    private static Consumer<MarkOrder> housePipe(int... more) {
        return ((Consumer<MarkOrder>) Trial::house).andThen(pipe(more));
    }

    /** RULES are 0 to 5. */
    private void pipesTakesRules() {
        range("pipes(rule)", Trial::house, 0, LAST_RULE, (x, n) -> x.pipes(n));
        range("pipes(rule) of a new one", x -> { }, 0, LAST_RULE, (x, n) -> x.pipes(n));
    }

    /** "a row of RULES (0 to 4; none at first)"; "BAD; FULL." */
    private void pipesIsFullAt4() {
        MarkOrder x = new MarkOrder();
        due("pipes: none at first", x.count(RULES), 0);
        for (int n = 1; n <= PIPE_ROOM; n++) {
            due("pipes: rule " + n, x.pipes(LAST_RULE), n);
            due("pipes: how many", x.count(RULES), n);
        }
        for (int rule = 0; rule <= LAST_RULE; rule++) {
            int fifth = rule;
            changesNothing("pipes: a fifth, " + rule, housePipe(APART, BARE), y -> y.pipes(fifth), FULL);
        }
        changesNothing("pipes: BAD goes ahead of FULL, below", housePipe(APART, BARE), y -> y.pipes(-1), BAD);
        changesNothing("pipes: BAD goes ahead of FULL, above", housePipe(APART, BARE), y -> y.pipes(6), BAD);
        due("pipes: the fourth", made(housePipe(APART)).pipes(APART), PIPE_ROOM);
        due("pipes: room again", made(housePipe(APART, BARE).andThen(MarkOrder::unpipe)).pipes(0), 1);
    }

    /** "THE PIPE is empty: how many it had." */
    private void unpipeEmptiesThePipeAlone() {
        for (int n = 0; n <= PIPE_ROOM; n++) {
            MarkOrder x = told(TABLES);
            for (int i = 0; i < n; i++) {
                x.pipes(BACK);
            }
            due("unpipe: of " + n, x.unpipe(), n);
            due("unpipe: empty", x.count(RULES), 0);
            due("unpipe: again", x.unpipe(), 0);
        }
        changesNothing("unpipe: of none", housePipe().andThen(MarkOrder::unpipe), MarkOrder::unpipe, 0);
        sameLooks("unpipe: nothing else changes", housePipe().andThen(MarkOrder::unpipe),
            housePipe(BARE, APART).andThen(MarkOrder::unpipe));
        MarkOrder x = made(Trial::house);
        int texts = x.keep(0);
        x.unpipe();
        due("unpipe: texts stay", x.keep(0), texts);
        due("unpipe: what may be undone stays", x.count(UNDONE), 10);
        due("unpipe: the image's pipe stays", x.back(1) >= 0 ? x.count(RULES) : BAD, 1);
    }

    /** "CODE i of what THE PIPE makes of a TEXT; how many there are (i = -1). BAD." */
    private void pipedTakesTextsAndPlaces() {
        range("piped(t, -1)", Trial::house, 0, 3, (x, n) -> x.piped(n, -1));
        range("piped(t, 0)", Trial::house, 0, 3, (x, n) -> x.piped(n, 0));
        range("piped(0, i) of none", x -> { }, -1, -1, (x, i) -> x.piped(0, i));
        for (int n : new int[] {0, 1, ROOM}) {
            Consumer<MarkOrder> fours = x -> {
                tell(x, FOURS);
                putTimes(x, 2, 3, n);
            };
            range("piped(2, i) without rules of " + n, fours, -1, n - 1, (x, i) -> x.piped(2, i));
            range("piped(2, i) by apart of " + n, fours.andThen(pipe(APART)), -1, 4 * n - 1, (x, i) -> x.piped(2, i));
            range("piped(2, i) by first of " + n, fours.andThen(pipe(APART, FIRST)), -1, Math.min(n, 1) - 1,
                (x, i) -> x.piped(2, i));
        }
        due("piped: both are wrong", made(Trial::house).piped(4, -2), BAD);
    }

    private void pipedWithoutRules() {
        MarkOrder x = told(TABLES);
        duePiped("piped: none by none", x, 0);
        put(x, 0, 5, 2, 11);
        duePiped("piped: by none", x, 0, 5, 2, 11);
    }

    /** "each makes a row of what the one ahead of it made": the first rule first, the fourth last. */
    private void pipedGoesFromRuleToRule() {
        int[] text = {5, 2, 11, 13};
        int[] rules = {BACK, APART, BARE, BACK};
        int[][] rows = {{13, 11, 2, 5}, {1, 0, 2, 2, 3, 5}, {1, 0}, {0, 1}};
        MarkOrder x = told(TABLES);
        put(x, 0, text);
        for (int i = 0; i < rules.length; i++) {
            x.pipes(rules[i]);
            duePiped("piped: by " + (i + 1), x, 0, rows[i]);
        }
        dueText("piped: the text stays", x, 0, text);
        MarkOrder y = told(TABLES);
        put(y, 0, text);
        pipe(FIRST, JOINED, BACK, SORTED).accept(y);
        // Ahead of the base 13: 5 2 11; joined 2 5 7; turned 7 5 2; sorted 7 2 5.
        duePiped("piped: four others", y, 0, 7, 2, 5);
    }

    private void pipedHasRoomFor64() {
        for (int rule = 0; rule <= LAST_RULE; rule++) {
            MarkOrder x = told(FOURS);
            putTimes(x, 0, 3, ROOM);
            pipe(APART, BACK, rule, APART).accept(x);
            due("piped: 64 by " + rule, x.piped(0, -1), rule == FIRST ? 1 : 64);
        }
    }

    private void fixedTakesTexts() {
        range("fixed(t)", Trial::house, 0, 3, (x, n) -> x.fixed(n));
        range("fixed(t) of none", x -> { }, 0, 3, (x, n) -> x.fixed(n));
    }

    /** "how often THE PIPE must be gone through (0 .. 9) .. NONE". */
    private void fixedIs0To9() {
        for (int bases = 0; bases <= ROOM - 1; bases++) {
            MarkOrder x = told(STEPS);
            pipe(JOINED, BACK, APART, BACK).accept(x);
            putTimes(x, 3, 0, bases);
            due("fixed: bases alone, " + bases, x.fixed(3), 0);
            x.puts(3, 1);
            due("fixed: a mark behind " + bases, x.fixed(3), bases <= 9 ? bases : NONE);
        }
    }

    private void fixedByOneRule() {
        int[] want = {1, 1, 1, 1, NONE, 1};
        for (int rule = 0; rule <= LAST_RULE; rule++) {
            MarkOrder x = told(TABLES);
            x.pipes(rule);
            put(x, 0, 5, 2, 11, 1);
            due("fixed: by " + rule, x.fixed(0), want[rule]);
            due("fixed: nothing by " + rule, x.fixed(1), 0);
            put(x, 2, 1);
            due("fixed: a base by " + rule, x.fixed(2), 0);
        }
        MarkOrder x = told(TABLES);
        put(x, 0, 5, 2, 11, 1);
        due("fixed: without rules", x.fixed(0), 0);
    }

    /** To and fro: each time it changes, though it is the same again after two. */
    private void fixedNever() {
        MarkOrder x = told("c0;c0;");
        x.pipes(BACK);
        put(x, 0, 0, 1);
        due("fixed: to and fro", x.fixed(0), NONE);
        put(x, 0, 0);
        due("fixed: the same from both ends", x.fixed(0), 0);
        x.pipes(BACK);
        put(x, 0, 1);
        due("fixed: turned twice", x.fixed(0), 0);
    }

    /** "IMAGES 0, 1". */
    private void keepTakesImages() {
        range("keep(image)", Trial::house, 0, 1, (x, n) -> x.keep(n));
        range("keep(image) of a new one", x -> { }, 0, 1, (x, n) -> x.keep(n));
    }

    private void keepTwice() {
        MarkOrder x = made(Trial::house);
        int many = x.keep(0);
        due("keep: the same in both", x.keep(1), many);
        x.cuts(0);
        due("keep: written over", x.keep(0), many - 1);
        due("keep: the other one stays", x.back(1), many);
        due("keep: the one written over", x.back(0), many - 1);
        sameLooks("keep: again", housePipe().andThen(y -> y.keep(0)), housePipe().andThen(y -> {
            y.keep(0);
            y.keep(0);
        }));
        sameButImages("keep: all else stays", Trial::house, housePipe().andThen(y -> y.keep(0)));
    }

    /** "how many CODES all TEXTS have": none to four full ones. */
    private void keepCountsAllTexts() {
        due("keep: of a new one", new MarkOrder().keep(0), 0);
        MarkOrder x = told(TABLES);
        for (int t = 0; t < 4; t++) {
            putTimes(x, t, 1, ROOM - 1);
            due("keep: one less than full", x.keep(1), ROOM * (t + 1) - 1);
            x.puts(t, 1);
            due("keep: full texts", x.keep(0), ROOM * (t + 1));
        }
        for (int t = 0; t < 4; t++) {
            clearText(x, t);
        }
        due("keep: none again", x.keep(1), 0);
        due("keep: back to all", x.back(0), 4 * ROOM);
        due("keep: back to none", x.back(1), 0);
    }

    private void backTakesImages() {
        range("back(image)", housePipe().andThen(x -> x.keep(0)), 0, 1, (x, n) -> x.back(n));
        // BAD goes ahead of STATE: none was kept at all.
        for (int n : new int[] {-1, 2}) {
            changesNothing("back: none was kept, " + n, x -> tell(x, TABLES), x -> x.back(n), BAD);
        }
    }

    /** "STATE: none was kept." */
    private void backNeedsAnImage() {
        changesNothing("back: image 0 was not kept", Trial::house, x -> x.back(0), STATE);
        changesNothing("back: new, image 0", x -> { }, x -> x.back(0), STATE);
        changesNothing("back: new, image 1", x -> { }, x -> x.back(1), STATE);
        due("back: an image of nothing is one", made(x -> x.keep(1)).back(1), 0);
        due("back: the other one is none", made(x -> x.keep(1)).back(0), STATE);
    }

    /** "All of that becomes as an IMAGE has it", the pipe's length too, be it longer or shorter. */
    private void backBringsTextsAndThePipe() {
        for (int kept = 0; kept <= PIPE_ROOM; kept++) {
            for (int now = 0; now <= PIPE_ROOM; now++) {
                MarkOrder x = told(TABLES);
                putTimes(x, 0, 2, 4 * kept);
                putTimes(x, 3, 9, kept);
                for (int i = 0; i < kept; i++) {
                    x.pipes(i);
                }
                due("back: kept", x.keep(0), 5 * kept);
                x.unpipe();
                clearText(x, 0);
                putTimes(x, 0, 3, 4 * now);
                putTimes(x, 2, 1, now);
                for (int i = 0; i < now; i++) {
                    x.pipes(BACK);
                }
                due("back: how many", x.back(0), 5 * kept);
                due("back: the pipe", x.count(RULES), kept);
                due("back: text 0", x.at(0, -1), 4 * kept);
                due("back: text 2", x.at(2, -1), 0);
                due("back: text 3", x.at(3, -1), kept);
                due("back: the last of text 0", x.at(0, 4 * kept - 1), kept == 0 ? 0 : 2);
            }
        }
        Consumer<MarkOrder> back = housePipe().andThen(x -> x.back(1));
        sameLooks("back: twice is as once", back, back.andThen(x -> x.back(1)));
        MarkOrder x = made(back);
        dueText("back: text 0 of the house", x, 0);
        dueText("back: text 1 of the house", x, 1, 0, 3, 2);
        dueText("back: text 2 of the house", x, 2);
        dueText("back: text 3 of the house", x, 3, 11);
        duePiped("back: the pipe of the house", x, 1, 2, 3, 0);
    }

    /** "nothing can be UNDONE behind back()". */
    private void backLeavesNothingToUndo() {
        Consumer<MarkOrder> back = housePipe().andThen(x -> x.back(1));
        changesNothing("back: nothing can be undone", back, MarkOrder::undo, STATE);
        MarkOrder x = made(back);
        due("back: how many may be", x.count(UNDONE), 0);
        for (int n = 1; n <= 11; n++) {
            x.puts(2, 1);
            due("back: known again", x.count(UNDONE), Math.min(n, 10));
        }
        for (int n = 9; n >= 0; n--) {
            due("back: undone again", x.undo(), n);
        }
        due("back: none is left", x.undo(), STATE);
        dueText("back: the eleventh stays", x, 2, 1);
    }

    /** "keep TEXTS, THE PIPE; nothing else". */
    private void backLeavesAllElse() {
        MarkOrder x = told(TABLES);
        write(x, "c");
        x.keep(0);
        write(x, "4;");
        x.puts(0, 1);
        x.keep(1);
        due("back: to image 0", x.back(0), 0);
        due("back: typed bytes stay", x.count(BYTES), 3);
        due("back: codes stay", x.count(CODES), TABLES_CODES);
        due("back: the other image stays", x.back(1), 1);
        due("back: and the first one too", x.back(0), 0);
        due("back: the typed text is as it was", x.tables(), 1);
        due("back: its code", x.code(0, 0), 4);
    }

    private void imagesAreGoneWithTheTables() {
        Consumer<MarkOrder> both = housePipe().andThen(x -> {
            x.keep(0);
            x.clear();
        });
        for (int image = 0; image <= 1; image++) {
            int asked = image;
            changesNothing("images: gone", both.andThen(MarkOrder::tables), x -> x.back(asked), STATE);
            due("images: a fault leaves them", made(both.andThen(x -> {
                x.type('@');
                x.tables();
            })).back(image) >= 0 ? 1 : 0, 1);
            MarkOrder x = made(both.andThen(MarkOrder::tables));
            due("images: kept anew", x.keep(image), 0);
            due("images: and there is one", x.back(image), 0);
            due("images: the other one is gone still", x.back(1 - image), STATE);
        }
    }

    /** "0 CODES .. 7 bytes of THE TEXT. BAD." */
    private void countTakesWhats() {
        range("count(what)", Trial::house, 0, 7, (x, n) -> x.count(n));
        range("count(what) of a new one", x -> { }, 0, 7, (x, n) -> x.count(n));
    }

    private void dueCounts(String what, MarkOrder x, int... counts) {
        for (int i = 0; i < counts.length; i++) {
            due("count: " + what + ", " + i, x.count(i), counts[i]);
        }
    }

    private void countsAtTheirEnds() {
        dueCounts("new", new MarkOrder(), 0, 0, 0, 0, 0, 0, 0, 0);
        dueCounts("24 bases", told("c0;".repeat(24)), 24, 0, 0, 0, 0, 0, 0, 0);
        dueCounts("24 marks", told("c1;".repeat(12) + "c9;".repeat(12)), 24, 24, 0, 0, 0, 0, 0, 0);
        dueCounts("23 outcasts", told("c0;" + "x0 0;".repeat(23)), 24, 0, 0, 23, 0, 0, 0, 0);
        dueCounts("23 singles", told("c0;" + "s0;".repeat(23)), 24, 0, 0, 0, 23, 0, 0, 0);
        dueCounts("23 singles of a mark", told("c1;" + "s0;".repeat(23)), 24, 24, 0, 0, 23, 0, 0, 0);
        MarkOrder x = told("c0;c1;c1;c1;c1;c1;c1;c1;p0 1;p0 2;p0 3;p0 4;p0 5;p0 6;p0 7;x0 1;s8;s1;");
        dueCounts("7 pairs", x, 18, 8, 7, 1, 2, 0, 0, 0);
        pipe(BACK, BACK, BACK, BACK, BACK).accept(x);
        putTimes(x, 0, 0, 11);
        write(x, "c".repeat(151));
        dueCounts("all full", x, 18, 8, 7, 1, 2, 4, 10, 150);
        x.undo();
        x.unpipe();
        x.clear();
        dueCounts("one undone", x, 18, 8, 7, 1, 2, 0, 9, 0);
    }

    /** "at most 512 calls": to the last of them all holds, refused calls counted too. */
    private void theLastCall() {
        MarkOrder x = new MarkOrder();
        for (int call = 1; call < LAST_CALL; call++) {
            due("call " + call, x.type('c'), call <= 150 ? call : FULL);
        }
        due("call 512", x.clear(), 150);
        MarkOrder y = told(STEPS);
        int calls = STEPS.length() + 1;
        while (calls < LAST_CALL - 1) {
            int n = (calls - STEPS.length() - 1) / 2;
            due("call " + (calls + 1), y.puts(n % 4, 0), 1);
            due("call " + (calls + 2), y.cuts(n % 4), 0);
            calls += 2;
        }
        due("the last call", calls < LAST_CALL ? y.undo() : 9, 9);
    }
}
