import java.util.ArrayList;
import java.util.Arrays;
import java.util.List;
import java.util.function.Consumer;

/** The boundaries that the document names for the texts, their changes and the rules: promises 7 to 13. */
public final class TextEdgesTest extends Trial {
    private static final int ROOM = 16, TEXTS = 4, LAST_RULE = 5, KNOWN = 10;
    // Code 2 has two pieces, a base and a mark, that are never joined.
    private static final String OUTCAST_TABLES = "c0;c1;x0 1;";

    private TextEdgesTest() {
        super("TextEdgesTest");
    }

    public static void main(String[] args) {
        new TextEdgesTest().go();
    }

    private void go() {
        textsAre0To3();
        numbersThatAreNoCodes();
        putsIsFullAt16();
        cutsNeedsACode();
        appendsIsFullBeyond16();
        appendsToItself();
        appendsOfNothing();
        formsTakesRules();
        formsIsFullBeyond16();
        formsLooksAtTheEndAlone();
        formsOfNothing();
        undoNeedsAChange();
        tenAreKnown();
        undoneAndChangedByTurns();
        eachKindIsUndone();
        whatIsNotUndone();
        atTakesPlaces();
        ruledTakesPlaces();
        sortedByClasses();
        sortedBetweenBases();
        sortedKeepsThoseOfOneClass();
        joinedPastWhatStayed();
        joinedPastIsBlockedStill();
        joinedBases();
        joinedFromTheFirstBaseOn();
        joinedNeverToAnOutcast();
        bareDropsMarks();
        backOfAnyLength();
        firstEndsAheadOfTheSecondBase();
        end();
    }

    private static Consumer<MarkOrder> houseFull(int t) {
        return x -> {
            house(x);
            putTimes(x, t, 3, ROOM);
        };
    }

    private static Consumer<MarkOrder> of(String tables, int c, int times) {
        return x -> {
            tell(x, tables);
            putTimes(x, 0, c, times);
        };
    }

    /** "TEXTS 0 .. 3". */
    private void textsAre0To3() {
        range("puts(t, 0)", Trial::house, 0, 3, (x, n) -> x.puts(n, 0));
        range("cuts(t)", Trial::house, 0, 3, (x, n) -> x.cuts(n));
        range("appends(t, 2)", Trial::house, 0, 3, (x, n) -> x.appends(n, 2));
        range("appends(2, u)", Trial::house, 0, 3, (x, n) -> x.appends(2, n));
        range("forms(t, 2)", Trial::house, 0, 3, (x, n) -> x.forms(n, SORTED));
        range("at(t, -1)", Trial::house, 0, 3, (x, n) -> x.at(n, -1));
        range("ruled(t, 0, 0)", Trial::house, 0, 3, (x, n) -> x.ruled(n, APART, 0));
    }

    /** "BAD": a number that is no CODE, however many there are. */
    private void numbersThatAreNoCodes() {
        range("puts(0, c)", Trial::house, 0, TABLES_CODES - 1, (x, n) -> x.puts(0, n));
        range("puts(3, c) of 24", x -> tell(x, "c0;".repeat(24)), 0, 23, (x, n) -> x.puts(3, n));
        range("puts(3, c) of 1", x -> tell(x, "c0;"), 0, 0, (x, n) -> x.puts(3, n));
        changesNothing("puts: no codes", x -> { }, x -> x.puts(0, 0), BAD);
    }

    /** "rows of 0 to 16 CODES (none at first)"; "BAD; FULL." */
    private void putsIsFullAt16() {
        for (int t = 0; t < TEXTS; t++) {
            int text = t;
            MarkOrder x = told(TABLES);
            due("puts: none at first", x.at(t, -1), 0);
            for (int n = 1; n <= ROOM; n++) {
                due("puts: code " + n + " of text " + t, x.puts(t, n % TABLES_CODES), n);
            }
            due("puts: code 17 of text " + t, x.puts(t, 0), FULL);
            due("puts: the others have room", x.puts((t + 1) % TEXTS, 0), 1);
            changesNothing("puts: full", houseFull(t), y -> y.puts(text, 0), FULL);
            changesNothing("puts: BAD goes ahead of FULL, below", houseFull(t), y -> y.puts(text, -1), BAD);
            changesNothing("puts: BAD goes ahead of FULL, above", houseFull(t), y -> y.puts(text, TABLES_CODES), BAD);
            due("puts: room again", made(houseFull(t).andThen(y -> y.cuts(text))).puts(t, 0), ROOM);
            due("puts: room again once it is undone", made(houseFull(t).andThen(MarkOrder::undo)).puts(t, 0), ROOM);
        }
    }

    /** "BAD; STATE: there is none." */
    private void cutsNeedsACode() {
        for (int t = 0; t < TEXTS; t++) {
            int text = t;
            Consumer<MarkOrder> empty = x -> {
                house(x);
                clearText(x, text);
            };
            changesNothing("cuts: none", empty, x -> x.cuts(text), STATE);
            due("cuts: none at first", new MarkOrder().cuts(t), STATE);
            MarkOrder x = made(empty);
            x.puts(t, 9);
            due("cuts: the only one", x.cuts(t), 9);
            due("cuts: none is left", x.cuts(t), STATE);
        }
        MarkOrder x = told(TABLES);
        for (int i = 0; i < ROOM; i++) {
            x.puts(1, i % 12);
        }
        for (int i = ROOM - 1; i >= 0; i--) {
            due("cuts: the last of " + (i + 1), x.cuts(1), i % 12);
            due("cuts: how many then", x.at(1, -1), i);
        }
        changesNothing("cuts: none of all", y -> { }, y -> y.cuts(4), BAD);
    }

    private static int[] row(int[] one, int[] other) {
        int[] both = Arrays.copyOf(one, one.length + other.length);
        System.arraycopy(other, 0, both, one.length, other.length);
        return both;
    }

    private static int[] steps(int from, int many) {
        int[] row = new int[many];
        for (int i = 0; i < many; i++) {
            row[i] = (from + i) % TABLES_CODES;
        }
        return row;
    }

    /** "APPENDED .. how many it has. BAD; FULL." for all lengths of the one and the other. */
    private void appendsIsFullBeyond16() {
        for (int n = 0; n <= ROOM; n++) {
            for (int m = 0; m <= ROOM; m++) {
                MarkOrder x = told(TABLES);
                int[] one = steps(0, n);
                int[] other = steps(5, m);
                put(x, 0, one);
                put(x, 3, other);
                String what = "appends: " + n + " and " + m;
                due(what, x.appends(0, 3), n + m <= ROOM ? n + m : FULL);
                dueText(what, x, 0, n + m <= ROOM ? row(one, other) : one);
                dueText(what + ", the other", x, 3, other);
            }
        }
        changesNothing("appends: full", houseFull(0), x -> x.appends(0, 2), FULL);
        changesNothing("appends: one too many", x -> {
            house(x);
            putTimes(x, 0, 3, 8);
        }, x -> x.appends(0, 1), FULL);
        changesNothing("appends: BAD goes ahead of FULL", houseFull(0), x -> x.appends(0, 4), BAD);
        changesNothing("appends: BAD goes ahead of FULL", houseFull(0), x -> x.appends(-1, 0), BAD);
    }

    /** "CODES of a TEXT (perhaps itself)". */
    private void appendsToItself() {
        for (int n = 0; n <= ROOM; n++) {
            MarkOrder x = told(TABLES);
            int[] one = steps(3, n);
            put(x, 2, one);
            String what = "appends: " + n + " to themselves";
            due(what, x.appends(2, 2), 2 * n <= ROOM ? 2 * n : FULL);
            dueText(what, x, 2, 2 * n <= ROOM ? row(one, one) : one);
        }
        changesNothing("appends: full by itself", houseFull(2), x -> x.appends(2, 2), FULL);
        changesNothing("appends: 9 to themselves", of(TABLES, 1, 9), x -> x.appends(0, 0), FULL);
    }

    /** Nothing comes, so a full text has room for it; what has come may be UNDONE all the same. */
    private void appendsOfNothing() {
        MarkOrder x = told(TABLES);
        putTimes(x, 0, 2, ROOM);
        due("appends: nothing to a full one", x.appends(0, 1), ROOM);
        due("appends: nothing to an empty one", x.appends(2, 1), 0);
        due("appends: nothing to itself", x.appends(1, 1), 0);
        due("appends: a full one to an empty one", x.appends(1, 0), ROOM);
        for (int i = KNOWN - 1; i >= KNOWN - 4; i--) {
            due("appends: undone", x.undo(), i);
        }
        dueText("appends: text 0 is full still", x, 0, 2, 2, 2, 2, 2, 2, 2, 2, 2, 2, 2, 2, 2, 2, 2, 2);
        dueText("appends: text 1 is empty again", x, 1);
    }

    /** "RULES" are 0 to 5. */
    private void formsTakesRules() {
        range("forms(1, rule)", Trial::house, 0, LAST_RULE, (x, n) -> x.forms(1, n));
        range("ruled(1, rule, -1)", Trial::house, 0, LAST_RULE, (x, n) -> x.ruled(1, n, -1));
        range("ruled(1, rule, 0)", Trial::house, 0, LAST_RULE, (x, n) -> x.ruled(1, n, 0));
        due("forms: both are wrong", made(Trial::house).forms(4, 6), BAD);
    }

    /** "FULL: more than 16." */
    private void formsIsFullBeyond16() {
        for (int fours = 0; fours <= 5; fours++) {
            for (int ones = 0; ones <= 4; ones++) {
                MarkOrder x = told(FOURS);
                putTimes(x, 0, 3, fours);
                putTimes(x, 0, 0, ones);
                int pieces = 4 * fours + ones;
                due("forms: apart, " + pieces, x.forms(0, APART), pieces <= ROOM ? pieces : FULL);
                due("forms: how many then", x.at(0, -1), pieces <= ROOM ? pieces : fours + ones);
            }
        }
        for (int outcasts = 7; outcasts <= 9; outcasts++) {
            for (int rule : new int[] {APART, JOINED}) {
                due("forms: " + outcasts + " outcasts by " + rule, made(of(OUTCAST_TABLES, 2, outcasts)).forms(0, rule),
                    outcasts <= 8 ? 2 * outcasts : FULL);
            }
        }
        Consumer<MarkOrder> seventeen = of(FOURS, 3, 4).andThen(x -> x.puts(0, 0));
        changesNothing("forms: 17 by apart", seventeen, x -> x.forms(0, APART), FULL);
        changesNothing("forms: 17 by bare", seventeen, x -> x.forms(0, BARE), FULL);
        Consumer<MarkOrder> apart17 = of(OUTCAST_TABLES, 2, 8).andThen(x -> x.puts(0, 1));
        changesNothing("forms: 17 by joined", apart17, x -> x.forms(0, JOINED), FULL);
        changesNothing("forms: 64 by apart", of(FOURS, 3, ROOM), x -> x.forms(0, APART), FULL);
        changesNothing("forms: BAD goes ahead of FULL", of(FOURS, 3, ROOM), x -> x.forms(0, -1), BAD);
        changesNothing("forms: BAD goes ahead of FULL", of(FOURS, 3, ROOM), x -> x.forms(0, 6), BAD);
    }

    /** More than 16 on the way do no harm. */
    private void formsLooksAtTheEndAlone() {
        MarkOrder x = made(of(FOURS, 3, ROOM));
        due("forms: 64 joined to 16", x.forms(0, JOINED), ROOM);
        dueText("forms: 64 joined to 16", x, 0, 3, 3, 3, 3, 3, 3, 3, 3, 3, 3, 3, 3, 3, 3, 3, 3);
        MarkOrder y = made(of(OUTCAST_TABLES, 2, ROOM));
        due("forms: 32, bare 16", y.forms(0, BARE), ROOM);
        dueText("forms: 32, bare 16", y, 0, 0, 0, 0, 0, 0, 0, 0, 0, 0, 0, 0, 0, 0, 0, 0, 0);
        for (int rule : new int[] {SORTED, BACK}) {
            due("forms: 16 by " + rule, made(of(FOURS, 3, ROOM)).forms(0, rule), ROOM);
        }
        due("forms: 16 marks, first", made(of(OUTCAST_TABLES, 1, ROOM)).forms(0, FIRST), ROOM);
        due("forms: 16 marks, apart", made(of(OUTCAST_TABLES, 1, ROOM)).forms(0, APART), ROOM);
        due("forms: 16 marks, bare", made(of(OUTCAST_TABLES, 1, ROOM)).forms(0, BARE), 0);
    }

    private void formsOfNothing() {
        for (int rule = 0; rule <= LAST_RULE; rule++) {
            MarkOrder x = told(TABLES);
            due("forms: nothing by " + rule, x.forms(2, rule), 0);
            due("forms: it may be undone", x.undo(), 0);
            due("forms: without any codes", new MarkOrder().forms(2, rule), 0);
        }
    }

    /** "STATE: none." */
    private void undoNeedsAChange() {
        changesNothing("undo: new", x -> { }, MarkOrder::undo, STATE);
        changesNothing("undo: just read", x -> tell(x, TABLES), MarkOrder::undo, STATE);
        Consumer<MarkOrder> spent = x -> {
            house(x);
            for (int i = 0; i < KNOWN; i++) {
                x.undo();
            }
        };
        changesNothing("undo: all undone", spent, MarkOrder::undo, STATE);
        due("undo: the last that is known", made(x -> {
            house(x);
            for (int i = 0; i < KNOWN - 1; i++) {
                x.undo();
            }
        }).undo(), 0);
        due("undo: the only one", made(of(TABLES, 0, 1)).undo(), 0);
    }

    private static List<List<Integer>> texts(MarkOrder x) {
        List<List<Integer>> all = new ArrayList<>();
        for (int t = 0; t < TEXTS; t++) {
            List<Integer> text = new ArrayList<>();
            int many = x.at(t, -1);
            for (int i = 0; i < many; i++) {
                text.add(x.at(t, i));
            }
            all.add(text);
        }
        return all;
    }

    /** Changes of all kinds and of all texts by turns; none of them is refused. */
    private void change(MarkOrder x, int i) {
        int t = i % TEXTS;
        int kind = i / TEXTS % 4;
        long answer;
        if (kind == 0 || x.at(t, -1) == 0) {
            answer = x.puts(t, i % TABLES_CODES);
        } else if (kind == 1) {
            answer = x.at(t, -1) <= 2 ? x.appends(t, (i + 1) % TEXTS) : x.puts(t, 3);
        } else if (kind == 2) {
            answer = x.forms(t, BACK);
        } else {
            answer = x.cuts(t);
        }
        holds("change " + i + " is not refused: " + answer, answer >= 0);
    }

    /** "10 are known, older ones are lost". */
    private void tenAreKnown() {
        for (int n = 0; n <= 33; n++) {
            MarkOrder x = told(TABLES);
            List<List<List<Integer>>> before = new ArrayList<>();
            for (int i = 0; i < n; i++) {
                // Looked at on an object of its own: this one has only 512 calls.
                before.add(texts(changed(i)));
                change(x, i);
            }
            int known = Math.min(n, KNOWN);
            due("undo: known of " + n, x.count(UNDONE), known);
            for (int i = 1; i <= known; i++) {
                due("undo: " + i + " of " + n, x.undo(), known - i);
                holds("undo: texts as ahead of change " + (n - i), texts(x).equals(before.get(n - i)));
            }
            due("undo: none of " + n, x.undo(), STATE);
        }
    }

    private MarkOrder changed(int times) {
        MarkOrder x = told(TABLES);
        for (int i = 0; i < times; i++) {
            change(x, i);
        }
        return x;
    }

    /** Those undone make room: what is known goes up to 10 again, and round and round. */
    private void undoneAndChangedByTurns() {
        for (int back = 1; back <= KNOWN; back++) {
            MarkOrder x = told(TABLES);
            putTimes(x, 0, 1, 14);
            for (int round = 0; round < 7; round++) {
                for (int i = 1; i <= back; i++) {
                    due("undo: by turns, " + back, x.undo(), KNOWN - i);
                }
                due("undo: how many then", x.at(0, -1), 14 - back);
                putTimes(x, 0, round, back);
                due("undo: known again", x.count(UNDONE), KNOWN);
            }
            for (int i = 1; i <= KNOWN; i++) {
                due("undo: all, " + back, x.undo(), KNOWN - i);
            }
            due("undo: the four first stay", x.at(0, -1), 4);
            due("undo: none", x.undo(), STATE);
        }
    }

    /** "the latest PUT, CUT, APPENDED, FORMED". */
    private void eachKindIsUndone() {
        List<Consumer<MarkOrder>> kinds = List.of(x -> x.puts(0, 5), x -> x.cuts(0), x -> x.appends(0, 1),
            x -> x.appends(0, 0), x -> x.forms(0, APART), x -> x.forms(0, JOINED), x -> x.forms(0, SORTED),
            x -> x.forms(0, BARE), x -> x.forms(0, BACK), x -> x.forms(0, FIRST));
        for (int i = 0; i < kinds.size(); i++) {
            MarkOrder x = told(TABLES);
            put(x, 0, 5, 4, 11, 10);
            put(x, 1, 3, 2);
            kinds.get(i).accept(x);
            due("undo: known with kind " + i, x.count(UNDONE), 7);
            due("undo: kind " + i, x.undo(), 6);
            dueText("undo: kind " + i, x, 0, 5, 4, 11, 10);
            dueText("undo: the other, kind " + i, x, 1, 3, 2);
        }
    }

    /** Neither the pipe, nor images, nor typed bytes, nor what was UNDONE. */
    private void whatIsNotUndone() {
        MarkOrder x = told(TABLES);
        x.puts(0, 1);
        x.pipes(BACK);
        x.keep(0);
        x.type('c');
        x.unpipe();
        x.pipes(BARE);
        x.clear();
        due("undo: only the put is known", x.count(UNDONE), 1);
        due("undo: the put", x.undo(), 0);
        due("undo: not what was undone", x.undo(), STATE);
        due("undo: the pipe stays", x.count(RULES), 1);
        due("undo: the image stays", x.back(0), 1);
    }

    /** "CODE i of a TEXT; how many there are (i = -1). BAD." */
    private void atTakesPlaces() {
        for (int n : new int[] {0, 1, 2, 15, ROOM}) {
            range("at(0, i) of " + n, of(TABLES, 3, n), -1, n - 1, (x, i) -> x.at(0, i));
            due("at: how many", made(of(TABLES, 3, n)).at(0, -1), n);
        }
        due("at: what was cut", made(of(TABLES, 3, 2).andThen(x -> x.cuts(0))).at(0, 1), BAD);
        due("at: both are wrong", made(Trial::house).at(4, -2), BAD);
    }

    /** "CODE i of what a RULE makes of a TEXT; how many there are (i = -1). BAD." */
    private void ruledTakesPlaces() {
        for (int n : new int[] {0, 1, 4, ROOM}) {
            range("ruled(0, 0, i) of fours: " + n, of(FOURS, 3, n), -1, 4 * n - 1, (x, i) -> x.ruled(0, APART, i));
            range("ruled(0, 1, i) of fours: " + n, of(FOURS, 3, n), -1, n - 1, (x, i) -> x.ruled(0, JOINED, i));
            range("ruled(0, 2, i) of fours: " + n, of(FOURS, 3, n), -1, n - 1, (x, i) -> x.ruled(0, SORTED, i));
            range("ruled(0, 3, i) of fours: " + n, of(FOURS, 3, n), -1, 4 * n - 1, (x, i) -> x.ruled(0, BARE, i));
            range("ruled(0, 4, i) of fours: " + n, of(FOURS, 3, n), -1, n - 1, (x, i) -> x.ruled(0, BACK, i));
            range("ruled(0, 5, i) of fours: " + n, of(FOURS, 3, n), -1, Math.min(n, 1) - 1, (x, i) -> x.ruled(0, FIRST, i));
        }
        for (int rule = 0; rule <= LAST_RULE; rule++) {
            int by = rule;
            changesNothing("ruled by " + rule, Trial::house, x -> x.ruled(0, by, 99), BAD);
            sameLooks("ruled by " + rule + " changes nothing", Trial::house, y -> {
                house(y);
                y.ruled(0, by, 0);
            });
        }
    }

    /** "of MARKS side by side those of lower CLASS come first": all two classes. */
    private void sortedByClasses() {
        for (int one = 0; one <= 9; one++) {
            for (int other = 0; other <= 9; other++) {
                MarkOrder x = told("c" + one + ";c" + other + ";");
                put(x, 0, 0, 1);
                boolean turned = one > other && other > 0;
                dueRuled("sorted: " + one + " " + other, x, 0, SORTED, turned ? 1 : 0, turned ? 0 : 1);
                dueRuled("apart: " + one + " " + other, x, 0, APART, turned ? 1 : 0, turned ? 0 : 1);
            }
        }
        MarkOrder x = told("c1;c2;c3;c4;c5;c6;c7;c8;c9;c1;c2;c3;c4;c5;c6;c7;");
        for (int c = ROOM - 1; c >= 0; c--) {
            x.puts(0, c);
        }
        dueRuled("sorted: 16 the wrong way round", x, 0, SORTED, 9, 0, 10, 1, 11, 2, 12, 3, 13, 4, 14, 5, 15, 6, 7, 8);
    }

    /** Only "side by side": a BASE between keeps them apart, wherever it stands. */
    private void sortedBetweenBases() {
        MarkOrder x = told("c0;c1;c2;c3;s0;s1;");
        put(x, 0, 3, 0, 2, 4, 1, 0);
        dueRuled("sorted: one mark between bases", x, 0, SORTED, 3, 0, 2, 4, 1, 0);
        put(x, 1, 3, 2, 0, 2, 1, 4, 3, 5);
        dueRuled("sorted: two marks between bases", x, 1, SORTED, 2, 3, 0, 1, 2, 4, 5, 3);
        put(x, 2, 0, 4, 0);
        dueRuled("sorted: bases alone", x, 2, SORTED, 0, 4, 0);
    }

    /** "those of one CLASS as they stand". */
    private void sortedKeepsThoseOfOneClass() {
        MarkOrder x = told("c2;c2;c2;c1;s0;");
        put(x, 0, 2, 0, 1, 4, 3, 0, 2);
        dueRuled("sorted: those of one class", x, 0, SORTED, 3, 2, 0, 1, 4, 0, 2);
        dueRuled("apart: those of one class", x, 0, APART, 3, 2, 0, 1, 0, 0, 2);
    }

    /** "BLOCKED .. whose CLASS is 0, or not less than C's": all two classes of marks. */
    private void joinedPastWhatStayed() {
        for (int stays = 1; stays <= 9; stays++) {
            for (int joins = 1; joins <= 9; joins++) {
                MarkOrder x = told("c0;c" + stays + ";c" + joins + ";p0 2;");
                put(x, 0, 0, 1, 2);
                String what = "joined: " + joins + " past " + stays;
                if (stays == joins) {
                    dueRuled(what, x, 0, JOINED, 0, 1, 2);
                } else {
                    dueRuled(what, x, 0, JOINED, 3, 1);
                }
                put(x, 1, 0, 2, 1);
                dueRuled(what + ", the other way round", x, 1, JOINED, 3, 1);
            }
        }
        MarkOrder x = told("c0;c1;c2;c3;p0 2;p4 3;p0 3;");
        put(x, 0, 0, 1, 2, 3);
        dueRuled("joined: two past one that stays", x, 0, JOINED, 5, 1);
        put(x, 1, 0, 2, 2, 3);
        dueRuled("joined: past a second one that stays", x, 1, JOINED, 5, 2);
        put(x, 2, 0, 3, 3, 3);
        dueRuled("joined: blocked by one like it", x, 2, JOINED, 6, 3, 3);
    }

    /** "between L and C a CODE stayed": what stayed blocks as before, when another one was JOINED past it. */
    private void joinedPastIsBlockedStill() {
        MarkOrder x = told("c0;c1;c2;c0;p0 2;p4 3;");
        put(x, 0, 0, 2, 3);
        dueRuled("joined: a base behind what was joined alone", x, 0, JOINED, 5);
        put(x, 1, 0, 1, 2, 3);
        dueRuled("joined: a base behind one that was passed", x, 1, JOINED, 4, 1, 3);
        put(x, 2, 0, 2, 1, 3, 0, 2, 3);
        dueRuled("joined: passed, and anew from the next base", x, 2, JOINED, 4, 1, 3, 5);
    }

    /** "to the latest BASE (it is L) .. else C stays, and is L then, if it is a BASE". */
    private void joinedBases() {
        MarkOrder x = told("c0;c0;c1;c9;p0 1;p0 2;p5 1;p1 2;");
        put(x, 0, 0, 1);
        dueRuled("joined: a base behind a base", x, 0, JOINED, 4);
        put(x, 0, 2);
        dueRuled("joined: a mark behind their pair", x, 0, JOINED, 4, 2);
        put(x, 1, 0, 2, 1);
        dueRuled("joined: a base behind what was joined", x, 1, JOINED, 6);
        put(x, 2, 0, 3, 1, 2);
        dueRuled("joined: a base behind what stayed is L", x, 2, JOINED, 0, 3, 7);
        put(x, 3, 0, 0, 2, 3, 1, 1, 2, 3, 0, 1, 1);
        dueRuled("joined: base after base", x, 3, JOINED, 0, 5, 3, 1, 7, 3, 4, 1);
        MarkOrder y = made(of(FOURS, 0, 9));
        dueRuled("joined: as far as pairs go, and anew", y, 0, JOINED, 3, 3, 0);
    }

    /** "from the first BASE on". */
    private void joinedFromTheFirstBaseOn() {
        MarkOrder x = told("c0;c1;c2;p0 1;p3 2;");
        put(x, 0, 2, 1);
        dueRuled("joined: no base", x, 0, JOINED, 1, 2);
        put(x, 0, 0);
        dueRuled("joined: a base last", x, 0, JOINED, 1, 2, 0);
        put(x, 0, 1);
        dueRuled("joined: a mark behind the first base", x, 0, JOINED, 1, 2, 3);
        put(x, 1, 0);
        dueRuled("joined: a base alone", x, 1, JOINED, 0);
        put(x, 2, 1);
        dueRuled("joined: a mark alone", x, 2, JOINED, 1);
        // The marks ahead of the first base block nothing behind it.
        put(x, 3, 2, 2, 0, 2, 1);
        dueRuled("joined: marks ahead block nothing", x, 3, JOINED, 2, 2, 4);
    }

    /** "an OUTCAST, likewise of two, but never JOINED". */
    private void joinedNeverToAnOutcast() {
        MarkOrder x = told("c0;c1;x0 1;s2;");
        put(x, 0, 0, 1, 2, 3);
        dueRuled("joined: an outcast's two", x, 0, JOINED, 0, 1, 0, 1, 0, 1);
        MarkOrder y = told("c0;c1;x0 1;p0 1;x3 1;s4;");
        put(y, 0, 0, 1, 2, 3, 4, 5);
        dueRuled("joined: a pair of the same two", y, 0, JOINED, 3, 3, 3, 3, 1, 3, 1);
    }

    /** "BARE: APART, then MARKS go." */
    private void bareDropsMarks() {
        for (int n = 0; n <= 9; n++) {
            MarkOrder x = told("c0;c" + n + ";p0 1;x2 1;s1;");
            put(x, 0, 1, 0, 4, 2, 3, 1);
            if (n == 0) {
                dueRuled("bare: class 0", x, 0, BARE, 1, 0, 1, 0, 1, 0, 1, 1, 1);
            } else {
                dueRuled("bare: class " + n, x, 0, BARE, 0, 0, 0);
            }
        }
    }

    /** "BACK: CODES in the opposite order." */
    private void backOfAnyLength() {
        for (int n = 0; n <= ROOM; n++) {
            MarkOrder x = told(TABLES);
            int[] row = steps(n, n);
            put(x, 1, row);
            int[] turned = new int[n];
            for (int i = 0; i < n; i++) {
                turned[i] = row[n - 1 - i];
            }
            dueRuled("back: " + n, x, 1, BACK, turned);
        }
    }

    /** "FIRST: what is ahead of the second BASE." */
    private void firstEndsAheadOfTheSecondBase() {
        for (int ahead = 0; ahead <= 3; ahead++) {
            for (int between = 0; between <= 3; between++) {
                MarkOrder x = told(TABLES);
                putTimes(x, 0, 5, ahead);
                due("first: no base", x.ruled(0, FIRST, -1), ahead);
                x.puts(0, 11);
                due("first: the first base last", x.ruled(0, FIRST, -1), ahead + 1);
                putTimes(x, 0, 2, between);
                due("first: one base", x.ruled(0, FIRST, -1), ahead + 1 + between);
                x.puts(0, 8);
                due("first: the second base last", x.ruled(0, FIRST, -1), ahead + 1 + between);
                put(x, 0, 3, 0);
                due("first: more bases", x.ruled(0, FIRST, -1), ahead + 1 + between);
                due("first: the base in it", x.ruled(0, FIRST, ahead), 11);
            }
        }
    }
}
