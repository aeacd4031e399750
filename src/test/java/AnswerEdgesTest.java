import java.util.List;
import java.util.function.Consumer;
import java.util.function.ToLongFunction;

/** The boundaries of what is asked of texts and changes nothing: promises 14 to 17. */
public final class AnswerEdgesTest extends Trial {
    private static final int ROOM = 16, LAST_RULE = 5;
    private static final long MOST = 1000000000000000000L;
    // The base 0 can be spelled in 9 ways, the mark 1 in 11, the two side by side in 9 * 11 + 1: 20 is their outcast.
    private static final String HUNDREDS = "c0;c1;" + "s0;".repeat(8) + "s1;".repeat(10) + "x0 1;";
    private static final int HUNDRED = 20;

    private AnswerEdgesTest() {
        super("AnswerEdgesTest");
    }

    public static void main(String[] args) {
        new AnswerEdgesTest().go();
    }

    private void go() {
        textsAre0To3();
        rulesAre0To5();
        quickTakesForms();
        seamTakesWhats();
        nothingIsChanged();
        quickApartNeedsPlainOnes();
        quickApartNeedsSortedOnes();
        quickJoinedRefusesOutcastsAndSingles();
        quickJoinedNeedsSortedOnes();
        quickJoinedLooksForSecondOnes();
        sameOfAllLengths();
        sameTellsEveryPlace();
        seamOfNothing();
        seamWithoutAMend();
        seamCountsNoneTwice();
        seamOfOneKind();
        seamIsMended();
        seamOfTheMost();
        spellingsOfNothing();
        spellingsMultiplyAndAdd();
        spellingsUpToTheMost();
        end();
    }

    /** "TEXTS 0 .. 3". */
    private void textsAre0To3() {
        range("quick(t, 0)", Trial::house, 0, 3, (x, n) -> x.quick(n, 0));
        range("quick(t, 1)", Trial::house, 0, 3, (x, n) -> x.quick(n, 1));
        range("same(t, 1, 0)", Trial::house, 0, 3, (x, n) -> x.same(n, 1, APART));
        range("same(1, u, 0)", Trial::house, 0, 3, (x, n) -> x.same(1, n, APART));
        range("seam(t, 1, 1, 0)", Trial::house, 0, 3, (x, n) -> x.seam(n, 1, JOINED, 0));
        range("seam(1, u, 1, 2)", Trial::house, 0, 3, (x, n) -> x.seam(1, n, JOINED, 2));
        range("spellings(t)", Trial::house, 0, 3, (x, n) -> x.spellings(n));
    }

    /** RULES are 0 to 5. */
    private void rulesAre0To5() {
        range("same(0, 1, rule)", Trial::house, 0, LAST_RULE, (x, n) -> x.same(0, 1, n));
        range("same(1, 1, rule)", Trial::house, 0, LAST_RULE, (x, n) -> x.same(1, 1, n));
        for (int what = 0; what <= 2; what++) {
            int asked = what;
            range("seam(0, 1, rule, " + what + ")", Trial::house, 0, LAST_RULE, (x, n) -> x.seam(0, 1, n, asked));
        }
    }

    /** "QUICK (form 0, 1)". */
    private void quickTakesForms() {
        range("quick(0, form)", Trial::house, 0, 1, (x, n) -> x.quick(0, n));
        range("quick(2, form)", Trial::house, 0, 1, (x, n) -> x.quick(2, n));
        range("quick(0, form) of none", x -> { }, 0, 1, (x, n) -> x.quick(0, n));
    }

    /** "SEAM (what 0 .. 2)". */
    private void seamTakesWhats() {
        range("seam(0, 1, 1, what)", Trial::house, 0, 2, (x, n) -> x.seam(0, 1, JOINED, n));
        range("seam(0, 1, 1, what) of none", x -> { }, 0, 2, (x, n) -> x.seam(0, 1, JOINED, n));
        due("seam: all are wrong", made(Trial::house).seam(4, 4, 6, 3), BAD);
    }

    /** "(Nothing is changed.)" */
    private void nothingIsChanged() {
        List<ToLongFunction<MarkOrder>> calls = List.of(x -> x.quick(0, 0), x -> x.quick(0, 1), x -> x.same(0, 1, JOINED),
            x -> x.same(3, 3, BARE), x -> x.seam(0, 1, APART, 0), x -> x.seam(1, 1, JOINED, 1), x -> x.seam(3, 0, BACK, 2),
            x -> x.spellings(0), x -> x.spellings(3), x -> x.fixed(0), x -> x.fixed(1), x -> x.piped(0, 0),
            x -> x.piped(3, -1), x -> x.ruled(0, JOINED, 0), x -> x.at(0, 0), x -> x.code(7, 5), x -> x.pair(0, 2),
            x -> x.count(UNDONE));
        for (int i = 0; i < calls.size(); i++) {
            ToLongFunction<MarkOrder> call = calls.get(i);
            long answer = call.applyAsLong(made(Trial::house));
            changesNothing("the asking call " + i, Trial::house, call, answer);
            due("the asking call " + i + " again", call.applyAsLong(made(x -> {
                house(x);
                call.applyAsLong(x);
            })), answer);
        }
    }

    private void dueQuick(String what, MarkOrder x, int t, int apart, int joined) {
        due("quick, apart: " + what, x.quick(t, 0), apart);
        due("quick, joined: " + what, x.quick(t, 1), joined);
    }

    private MarkOrder with(String tables, int... codes) {
        MarkOrder x = told(tables);
        put(x, 0, codes);
        return x;
    }

    /** "For APART: 1, if all CODES are PLAIN": the one that is not may stand anywhere. */
    private void quickApartNeedsPlainOnes() {
        String tables = "c0;p0 0;x0 0;s0;";
        for (int other = 1; other <= 3; other++) {
            for (int place = 0; place < ROOM; place++) {
                MarkOrder x = told(tables);
                putTimes(x, 0, 0, place);
                due("quick: all plain", x.quick(0, 0), 1);
                x.puts(0, other);
                due("quick: the last is " + other, x.quick(0, 0), 0);
                putTimes(x, 0, 0, ROOM - 1 - place);
                due("quick: at " + place + " is " + other, x.quick(0, 0), 0);
            }
        }
    }

    /** "and SORTED changes nothing": all two classes. */
    private void quickApartNeedsSortedOnes() {
        for (int one = 0; one <= 9; one++) {
            for (int other = 0; other <= 9; other++) {
                MarkOrder x = with("c" + one + ";c" + other + ";", 0, 1);
                int sorted = one > other && other > 0 ? 0 : 1;
                dueQuick("classes " + one + " " + other, x, 0, sorted, sorted);
            }
        }
        MarkOrder x = with("c0;c1;c2;", 2, 0, 1, 1, 2, 0, 1, 2, 2, 0, 0, 1, 1, 1, 2);
        dueQuick("15, sorted", x, 0, 1, 1);
        x.puts(0, 1);
        dueQuick("16, the last is not", x, 0, 0, 0);
    }

    /** "For JOINED: 0, if there is an OUTCAST, a SINGLE". */
    private void quickJoinedRefusesOutcastsAndSingles() {
        String tables = "c0;c0;p1 0;x0 1;s0;s2;";
        dueQuick("a pair", with(tables, 2), 0, 0, 1);
        dueQuick("an outcast", with(tables, 3), 0, 0, 0);
        dueQuick("a single", with(tables, 4), 0, 0, 0);
        dueQuick("a single of a pair", with(tables, 5), 0, 0, 0);
        // A second one stands ahead of it, which alone would be answered by 2.
        dueQuick("a second one", with(tables, 1, 0), 0, 1, 2);
        dueQuick("a second one, then an outcast", with(tables, 1, 0, 3), 0, 0, 0);
        dueQuick("a second one, then a single", with(tables, 1, 0, 4), 0, 0, 0);
        dueQuick("an outcast, then a second one", with(tables, 3, 1, 0), 0, 0, 0);
    }

    /** "or SORTED changes something; else 2". */
    private void quickJoinedNeedsSortedOnes() {
        String tables = "c0;c1;c2;p0 1;p3 2;";
        dueQuick("marks sorted", with(tables, 0, 1, 2), 0, 1, 2);
        dueQuick("marks not sorted", with(tables, 0, 2, 1), 0, 0, 0);
        dueQuick("a pair, then a mark that is lower", with(tables, 4, 1), 0, 0, 2);
    }

    /** "a CODE whose first PIECE is the second one of a PAIR; else 1". */
    private void quickJoinedLooksForSecondOnes() {
        String tables = "c0;c0;c1;c2;p0 1;p1 3;x0 2;p4 3;";
        dueQuick("nothing", told(tables), 0, 1, 1);
        dueQuick("a first one", with(tables, 0), 0, 1, 1);
        dueQuick("a base that is a second one", with(tables, 1), 0, 1, 2);
        dueQuick("a mark that is an outcast's second one", with(tables, 2), 0, 1, 1);
        dueQuick("a mark that is a second one", with(tables, 3), 0, 1, 2);
        dueQuick("a pair whose last piece is a second one", with(tables, 4), 0, 0, 1);
        dueQuick("a pair whose first piece is a second one", with(tables, 5), 0, 0, 2);
        dueQuick("a pair of a pair", with(tables, 7), 0, 0, 1);
        dueQuick("a second one last of 16", with(tables, 0, 0, 0, 0, 0, 0, 0, 0, 0, 0, 0, 0, 0, 0, 0, 1), 0, 1, 2);
        dueQuick("no second one of 16", with(tables, 0, 0, 0, 0, 0, 0, 0, 0, 0, 0, 0, 0, 0, 0, 0, 0), 0, 1, 1);
        dueQuick("without pairs", with("c0;c1;x0 1;", 0, 1), 0, 1, 1);
    }

    /** "it makes the same of both": rows of other lengths are not. */
    private void sameOfAllLengths() {
        for (int n = 0; n <= ROOM; n++) {
            for (int m = 0; m <= ROOM; m++) {
                MarkOrder x = told("c1;");
                putTimes(x, 0, 0, n);
                putTimes(x, 1, 0, m);
                for (int rule = 0; rule <= LAST_RULE; rule++) {
                    int want = n == m || rule == BARE ? 1 : 0;
                    due("same: " + n + " and " + m + " by " + rule, x.same(0, 1, rule), want);
                }
            }
        }
        MarkOrder fours = told(FOURS);
        putTimes(fours, 0, 3, ROOM);
        putTimes(fours, 1, 3, ROOM);
        for (int rule = 0; rule <= LAST_RULE; rule++) {
            due("same: 64 by " + rule, fours.same(0, 1, rule), 1);
        }
        fours.cuts(1);
        due("same: 64 and 60, apart", fours.same(0, 1, APART), 0);
        fours.puts(1, 2);
        due("same: 64 and 63, apart", fours.same(0, 1, APART), 0);
        due("same: 64 and 63, bare", fours.same(0, 1, BARE), 0);
        due("same: 64 and 63, joined", fours.same(0, 1, JOINED), 0);
        due("same: 64 and 63, first", fours.same(0, 1, FIRST), 1);
    }

    private void sameTellsEveryPlace() {
        for (int place = 0; place < ROOM; place++) {
            MarkOrder x = told("c0;c0;");
            putTimes(x, 2, 0, ROOM);
            putTimes(x, 3, 0, place);
            x.puts(3, 1);
            putTimes(x, 3, 0, ROOM - 1 - place);
            for (int rule = 0; rule <= BACK; rule++) {
                due("same: other at " + place + " by " + rule, x.same(2, 3, rule), 0);
            }
            due("same: other at " + place + " by first", x.same(2, 3, FIRST), place == 0 ? 0 : 1);
        }
    }

    private void seamOfNothing() {
        for (int rule = 0; rule <= LAST_RULE; rule++) {
            dueSeam("seam: none and none by " + rule, new MarkOrder(), rule, 0, 0, 0);
            MarkOrder x = told("c1;");
            x.puts(0, 0);
            int many = rule == BARE ? 0 : 1;
            dueSeam("seam: one and none by " + rule, x, rule, many, 0, 0);
            x.cuts(0);
            x.puts(1, 0);
            // What is made of nothing is nothing, so all that is alike is counted from the last back.
            dueSeam("seam: none and one by " + rule, x, rule, 0, many, 0);
        }
    }

    /** "how many from the first on .. (0); how many of the others, from the last back .. (1)". */
    private void seamWithoutAMend() {
        for (int n = 0; n <= ROOM; n++) {
            for (int m = 0; m <= ROOM; m++) {
                MarkOrder x = told("c0;c0;");
                putTimes(x, 0, 0, n);
                putTimes(x, 1, 1, m);
                dueSeam("seam: " + n + " and " + m, x, SORTED, n, m, 0);
                // Turned, the other one's codes stand ahead: nothing is as it was, unless one is empty.
                boolean empty = n == 0 || m == 0;
                dueSeam("seam, back: " + n + " and " + m, x, BACK, empty ? n : 0, empty ? m : 0, empty ? 0 : n + m);
            }
        }
    }

    /** "of the others": none that was counted from the first on. */
    private void seamCountsNoneTwice() {
        MarkOrder x = told("c0;");
        put(x, 0, 0);
        put(x, 1, 0);
        dueSeam("seam: the one code is as in both", x, FIRST, 1, 0, 0);
        MarkOrder y = told("c1;c0;");
        put(y, 0, 0, 0, 1);
        put(y, 1, 1, 0);
        dueSeam("seam: first", y, FIRST, 3, 0, 0);
        MarkOrder z = told("c0;c0;p0 1;");
        put(z, 0, 0, 1, 0);
        put(z, 1, 1, 0, 1);
        // Together 2 2 2; of the one 2 0, of the other 1 2.
        dueSeam("seam: joined at the seam", z, JOINED, 1, 1, 1);
    }

    private void seamOfOneKind() {
        for (int n = 0; n <= ROOM; n++) {
            for (int m = 0; m <= ROOM; m++) {
                MarkOrder x = told("c1;");
                putTimes(x, 0, 0, n);
                putTimes(x, 1, 0, m);
                dueSeam("seam: of one kind, " + n + " and " + m, x, BACK, n, m, 0);
            }
        }
    }

    /** "how many are between (2)". */
    private void seamIsMended() {
        MarkOrder x = told("c0;c1;c2;c3;p0 1;");
        put(x, 0, 0, 0, 3);
        put(x, 1, 1, 2, 0, 1);
        // Together 0 0 1 2 3 0 1; of the one 0 0 3, of the other 1 2 0 1.
        dueSeam("seam: apart", x, APART, 2, 2, 3);
        // Together 0 4 2 3 4; of the one 0 0 3, of the other 1 2 4.
        dueSeam("seam: joined", x, JOINED, 1, 1, 3);
        dueSeam("seam: bare", x, BARE, 2, 1, 0);
        dueSeam("seam: sorted", x, SORTED, 2, 2, 3);
        // Together 0; of the one 0, of the other 1 2 0.
        dueSeam("seam: first", x, FIRST, 1, 0, 0);
        // Together 1 0 2 1 3 0 0; of the one 3 0 0, of the other 1 0 2 1.
        dueSeam("seam: back", x, BACK, 0, 0, 7);
        dueText("seam: the one is not changed", x, 0, 0, 0, 3);
        dueText("seam: the other is not changed", x, 1, 1, 2, 0, 1);
        // With itself 1 2 0 1 1 2 0 1, or joined 1 2 4 1 2 4.
        due("seam: a text with itself, ahead", x.seam(1, 1, APART, 0), 4);
        due("seam: a text with itself, behind", x.seam(1, 1, APART, 1), 4);
        due("seam: a text with itself, joined, ahead", x.seam(1, 1, JOINED, 0), 3);
        due("seam: a text with itself, joined, behind", x.seam(1, 1, JOINED, 1), 3);
    }

    /** Two full texts, each code of four pieces. */
    private void seamOfTheMost() {
        MarkOrder x = told(FOURS);
        putTimes(x, 0, 3, ROOM);
        putTimes(x, 1, 3, ROOM);
        dueSeam("seam: 64 and 64", x, APART, 64, 64, 0);
        dueSeam("seam: 64 and 64, bare", x, BARE, 64, 64, 0);
        dueSeam("seam: 64 and 64, joined", x, JOINED, ROOM, ROOM, 0);
        dueSeam("seam: 16 and 16", x, SORTED, ROOM, ROOM, 0);
        MarkOrder y = told("c0;c0;p0 0;p2 0;p3 0;");
        putTimes(y, 0, 4, ROOM);
        putTimes(y, 1, 4, ROOM - 1);
        y.puts(1, 1);
        dueSeam("seam: 64 and 61", y, APART, 64, 61, 0);
        due("seam: 61 and 64, ahead", y.seam(1, 0, APART, 0), 61);
        due("seam: 61 and 64, behind", y.seam(1, 0, APART, 1), 64);
        MarkOrder z = told("c1;c2;");
        putTimes(z, 0, 1, ROOM);
        putTimes(z, 1, 0, ROOM);
        dueSeam("seam: all must be mended", z, SORTED, 0, 0, 2 * ROOM);
    }

    /** Of no codes there is one row: that of none. */
    private void spellingsOfNothing() {
        due("spellings: of none", told(HUNDREDS).spellings(0), 1);
        due("spellings: without codes", new MarkOrder().spellings(3), 1);
        due("spellings: of one", with("c0;", 0).spellings(0), 1);
        due("spellings: of 16", made(x -> {
            tell(x, "c0;");
            putTimes(x, 0, 0, ROOM);
        }).spellings(0), 1);
    }

    private void spellingsMultiplyAndAdd() {
        due("spellings: of a base", with(HUNDREDS, 0).spellings(0), 9);
        due("spellings: of a mark", with(HUNDREDS, 1).spellings(0), 11);
        due("spellings: of both", with(HUNDREDS, 0, 1).spellings(0), 100);
        due("spellings: of their outcast", with(HUNDREDS, HUNDRED).spellings(0), 100);
        due("spellings: the other way round", with(HUNDREDS, 1, 0).spellings(0), 99);
        due("spellings: of a single", with(HUNDREDS, 2).spellings(0), 9);
        // Rows of 0: each code takes one to four of them.
        long[] fours = {1, 1, 2, 4, 8, 15, 29, 56, 108};
        for (int n = 0; n < fours.length; n++) {
            int many = n;
            due("spellings: of " + n + " in ones to fours", made(x -> {
                tell(x, FOURS);
                putTimes(x, 0, 0, many);
            }).spellings(0), fours[n]);
        }
        // Of what APART makes, not of the codes as they stand: 0 2 1 is sorted to 0 1 2.
        due("spellings: of what is sorted", with("c0;c1;c2;p0 1;", 0, 2, 1).spellings(0), 2);
    }

    private static Consumer<MarkOrder> hundreds(int many, int ahead, int behind) {
        return x -> {
            tell(x, HUNDREDS);
            putTimes(x, 0, 1, ahead);
            putTimes(x, 0, HUNDRED, many);
            putTimes(x, 0, 0, behind);
        };
    }

    /** "more than 10 to the power of 18 count as that". */
    private void spellingsUpToTheMost() {
        due("spellings: 10 to the 16", made(hundreds(8, 0, 0)).spellings(0), MOST / 100);
        due("spellings: 99 of a hundred of the most", made(hundreds(8, 1, 1)).spellings(0), MOST / 100 * 99);
        due("spellings: just the most", made(hundreds(9, 0, 0)).spellings(0), MOST);
        due("spellings: 9 times the most", made(hundreds(9, 0, 1)).spellings(0), MOST);
        due("spellings: 11 times the most", made(hundreds(9, 1, 0)).spellings(0), MOST);
        // Some of these would be small or below 0, if they were not held on the way.
        for (int many = 10; many <= ROOM; many++) {
            due("spellings: 10 to the " + 2 * many, made(hundreds(many, 0, 0)).spellings(0), MOST);
        }
        String tables = "c0;" + "s0;".repeat(23);
        long want = 1;
        for (int n = 1; n <= ROOM; n++) {
            want = want >= MOST / 24 + 1 ? MOST : want * 24;
            int many = n;
            due("spellings: 24 to the " + n, made(x -> {
                tell(x, tables);
                putTimes(x, 0, 0, many);
            }).spellings(0), Math.min(want, MOST));
        }
        due("spellings: of 64 in ones to fours, just below the most", made(x -> {
            tell(x, FOURS);
            putTimes(x, 0, 3, ROOM);
        }).spellings(0), 985403006066700680L);
        due("spellings: and with one way more for a one", made(x -> {
            tell(x, FOURS + "s0;");
            putTimes(x, 0, 3, ROOM);
        }).spellings(0), MOST);
    }
}
