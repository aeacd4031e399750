import java.util.function.Consumer;

/** The boundaries that the document names for the typed text and the tables: promises 1 to 6. */
public final class TableEdgesTest extends Trial {
    private static final int ROOM = 150;
    private static final String[] SORTS = {"c0;", "p0 0;", "x0 0;", "s0;"};

    private TableEdgesTest() {
        super("TableEdgesTest");
    }

    public static void main(String[] args) {
        new TableEdgesTest().go();
    }

    private void go() {
        newHasNoCodes();
        typeTakesBytes();
        typeIsFullAt150();
        aTextOf150BytesIsReadWhole();
        clearEmptiesTheTextAlone();
        codesAre24AtMost();
        classesAre0To9();
        marksAreOfClass1AndMore();
        everyByteWhereACodeBegins();
        everyByteWhereANumberBegins();
        everyByteBehindANumber();
        everyByteBehindACode();
        lettersSideBySideAreOneToken();
        blanksOfAnyNumberStandBetweenTokens();
        numbersAbove99();
        numbersWithA0Ahead();
        aTextThatEndsTooEarly();
        everyCodeIsEndedByASemicolon();
        numbersAreToldAhead();
        firstOnesAreBasesPlainOrPairs();
        secondOnesArePlain();
        secondOnesOfPairsAreOfNoLowerClass();
        theLastPieceTellsTheClass();
        secondOnesOfOutcastsAreOfAnyClass();
        noTwoPairsAlike();
        pairsAre7AtMost();
        outcastsAndSinglesAreNotCountedAsPairs();
        piecesAre4AtMost();
        pairsAndOutcastsAreBases();
        singlesAreOfTheClassOfTheirOne();
        theFirstFaultIsTold();
        aFaultChangesNothing();
        readAnewAllIsGone();
        codeTakesCodesAndWhats();
        codeAnswersNone();
        pairTakesCodes();
        end();
    }

    private static String times(String part, int times) {
        return part.repeat(Math.max(times, 0));
    }

    private void reads(String text, int codes) {
        due("tables of '" + text + "'", read(text), codes);
    }

    private void faults(String text, int place) {
        due("tables of '" + text + "'", read(text), -10 - place);
    }

    private static Consumer<MarkOrder> houseWith(String text) {
        return x -> {
            house(x);
            x.clear();
            write(x, text);
        };
    }

    /** "No CODES.": so each number is beyond them. */
    private void newHasNoCodes() {
        for (int n = -1; n <= 24; n++) {
            due("new: code", new MarkOrder().code(n, 0), BAD);
            due("new: pair", new MarkOrder().pair(n, n), BAD);
            due("new: puts", new MarkOrder().puts(0, n), BAD);
        }
        for (int what = 0; what <= 7; what++) {
            due("new: count " + what, new MarkOrder().count(what), 0);
        }
        sameLooks("new: as if nothing had been read", x -> { }, x -> x.tables());
    }

    /** "A byte (0 .. 255) comes to THE TEXT". */
    private void typeTakesBytes() {
        range("type(c)", Trial::house, 0, 255, (x, n) -> x.type(n));
    }

    /** "150 bytes at most"; "BAD; FULL." */
    private void typeIsFullAt150() {
        Consumer<MarkOrder> one = x -> write(x, times(" ", 1));
        due("type: the second byte", made(one).type(' '), 2);
        MarkOrder x = new MarkOrder();
        write(x, times(" ", ROOM - 2));
        due("type: the byte 149", x.type(' '), ROOM - 1);
        due("type: the byte 150", x.type(' '), ROOM);
        due("type: the byte 151", x.type(' '), FULL);
        due("type: the byte 151 again", x.type(0), FULL);
        Consumer<MarkOrder> full = houseWith("c3;" + times(" ", ROOM - 3));
        changesNothing("type: full", full, y -> y.type(';'), FULL);
        changesNothing("type: BAD goes ahead of FULL, below", full, y -> y.type(-1), BAD);
        changesNothing("type: BAD goes ahead of FULL, above", full, y -> y.type(256), BAD);
        due("type: room again", made(full.andThen(MarkOrder::clear)).type(' '), 1);
        due("type: room again once it is read", made(full.andThen(MarkOrder::tables)).type(' '), 1);
    }

    /** Places run to 149, and to 150 behind the last byte. */
    private void aTextOf150BytesIsReadWhole() {
        reads("c7;" + times(" ", ROOM - 6) + "c9;", 2);
        faults("c7;" + times(" ", ROOM - 4) + "@", ROOM - 1);
        faults("c7;" + times(" ", ROOM - 5) + "c9", ROOM);
        faults(times(" ", ROOM - 1) + "c", ROOM);
        faults(times(" ", ROOM - 1) + ";", ROOM - 1);
        faults("c" + times(" ", ROOM - 1), ROOM);
        faults("c" + times("0", ROOM - 1), 1);
        faults(times("c", ROOM), 0);
        reads(times(" ", ROOM), 0);
    }

    /** "THE TEXT is empty: how many bytes it had." */
    private void clearEmptiesTheTextAlone() {
        due("clear: none", new MarkOrder().clear(), 0);
        due("clear: one", made(x -> x.type(0)).clear(), 1);
        due("clear: 150", made(x -> write(x, times("c", ROOM))).clear(), ROOM);
        due("clear: 150, as the next was refused", made(x -> write(x, times("c", ROOM + 1))).clear(), ROOM);
        changesNothing("clear: of an empty text", houseWith(""), MarkOrder::clear, 0);
        sameLooks("clear: nothing else changes", houseWith(""), houseWith("c0;c5;").andThen(MarkOrder::clear));
    }

    /** "CODES 0 .. (24 at most)"; "a twenty-fifth CODE". */
    private void codesAre24AtMost() {
        reads("", 0);
        reads("c0;", 1);
        for (String last : SORTS) {
            reads(times("c0;", 22) + last, 23);
            reads(times("c0;", 23) + last, 24);
            faults(times("c0;", 24) + last, 72);
            faults(times("c0;", 24) + "  " + last, 74);
            faults(times("c0;", 24) + last.charAt(0), 72);
        }
        reads(times("c0;", 24) + times(" ", 78), 24);
        changesNothing("tables: a twenty-fifth code", houseWith(times("c0;", 25)), MarkOrder::tables, -10 - 72);
        MarkOrder x = told(times("c0;", 23) + "c9;");
        due("tables: the last of 24", x.code(23, 0), 9);
        due("tables: none behind 24", x.code(24, 0), BAD);
    }

    /** "each of a CLASS 0 .. 9". */
    private void classesAre0To9() {
        for (int n = 0; n <= 99; n++) {
            String text = "c" + n + ";";
            due("tables of " + text, read(text), n <= 9 ? 1 : -10 - 1);
            if (n <= 9) {
                due("class of " + text, told(text).code(0, 0), n);
            }
        }
        changesNothing("tables: class 10", houseWith("c9;c10;"), MarkOrder::tables, -10 - 4);
    }

    /** "BASES (0), MARKS (1 and more)". */
    private void marksAreOfClass1AndMore() {
        for (int n = 0; n <= 9; n++) {
            MarkOrder x = told("c" + n + ";");
            due("marks of class " + n, x.count(MARKS), n == 0 ? 0 : 1);
            x.puts(0, 0);
            due("bare of class " + n, x.ruled(0, BARE, -1), n == 0 ? 1 : 0);
            faultsUnless(n == 0, "c" + n + ";p0 0;", 4);
            faultsUnless(n == 0, "c" + n + ";x0 0;", 4);
        }
    }

    private void faultsUnless(boolean fine, String text, int place) {
        due("tables of '" + text + "'", read(text), fine ? 2 : -10 - place);
    }

    private static boolean isLetter(int b) {
        return 'a' <= b && b <= 'z';
    }

    private static boolean isDigit(int b) {
        return '0' <= b && b <= '9';
    }

    /** "letters that begin no CODE"; "of a byte that begins none .. that TOKEN's". */
    private void everyByteWhereACodeBegins() {
        for (int b = 0; b <= 255; b++) {
            boolean begins = "cpxs".indexOf(b) >= 0;
            long want = b == ' ' ? 1 : begins ? -10 - 4 : -10 - 3;
            due("tables: byte " + b + " where a code begins", read("c0;" + (char) b), want);
            long wantAhead = b == ' ' ? 0 : begins ? -10 - 1 : -10;
            due("tables: byte " + b + " alone", read("" + (char) b), wantAhead);
        }
    }

    private void everyByteWhereANumberBegins() {
        for (int b = 0; b <= 255; b++) {
            boolean early = b == ' ' || isDigit(b);
            // A letter there makes one token with the c ahead of it.
            long want = early ? -10 - 2 : isLetter(b) ? -10 : -10 - 1;
            due("tables: byte " + b + " behind c", read("c" + (char) b), want);
            long wantApart = early ? -10 - 3 : -10 - 2;
            due("tables: byte " + b + " behind c and a blank", read("c " + (char) b), wantApart);
            boolean told = b == '0';
            long wantSecond = b == ' ' || told ? -10 - 7 : -10 - 6;
            due("tables: byte " + b + " for the second one", read("c0;p0 " + (char) b), wantSecond);
        }
    }

    private void everyByteBehindANumber() {
        for (int b = 0; b <= 255; b++) {
            // A digit there makes one number with that ahead of it.
            long want = b == ';' ? 1 : b == ' ' ? -10 - 3 : isDigit(b) ? -10 - 1 : -10 - 2;
            due("tables: byte " + b + " behind c0", read("c0" + (char) b), want);
            due("tables: byte " + b + " behind c9", read("c9" + (char) b), want);
            long wantApart = b == ';' ? 1 : b == ' ' ? -10 - 4 : -10 - 3;
            due("tables: byte " + b + " behind c0 and a blank", read("c0 " + (char) b), wantApart);
            long wantFirst = b == ' ' ? -10 - 6 : isDigit(b) ? -10 - 4 : -10 - 5;
            due("tables: byte " + b + " behind the first one", read("c0;p0" + (char) b), wantFirst);
        }
    }

    private void everyByteBehindACode() {
        for (int b = 0; b <= 255; b++) {
            // A letter there makes one token with the c behind it.
            due("tables: byte " + b + " between codes", read("c0;" + (char) b + "c0;"), b == ' ' ? 2 : -10 - 3);
        }
    }

    /** "TOKENS are letters a .. z side by side". */
    private void lettersSideBySideAreOneToken() {
        for (char one = 'a'; one <= 'z'; one++) {
            for (char other : new char[] {'a', 'c', 'p', 's', 'x', 'z'}) {
                faults("c0; " + one + other + "0 0;", 4);
            }
            boolean begins = "cpxs".indexOf(one) >= 0;
            faults("c0; " + one + " c0;", begins ? 6 : 4);
        }
        faults("c0;c0;ccc", 6);
        faults("c0;c0c", 5);
        faults("c0;pp0 0;", 3);
    }

    /** "blanks (32) between TOKENS". */
    private void blanksOfAnyNumberStandBetweenTokens() {
        reads("c0;c0;p0 1;", 3);
        for (int n = 1; n <= 6; n++) {
            String blanks = times(" ", n);
            reads(("_c_0_;_c_0_;_p_0_1_;_x_0_1_;_s_0_;_").replace("_", blanks), 5);
            faults("c" + blanks + "1" + blanks + "0;", 2 + 2 * n);
            faults("c0;c0;p" + blanks + "01;", 7 + n);
        }
        faults("c0;c0;p01;", 7);
    }

    /** "a NUMBER above 99": that token's place, even if its lowest bits would do. */
    private void numbersAbove99() {
        for (String number : new String[] {"99", "100", "101", "109", "256", "512", "1000", "65536", "65537",
                "2147483647", "2147483648", "4294967296", "4294967297", "4294967305", "18446744073709551616",
                "18446744073709551617", "100000000000000000000", times("9", 60), "1" + times("0", 99)}) {
            faults("c" + number + ";", 1);
            faults("c" + number, 1);
            faults("c0;c0;p" + number + " 1;", 7);
            faults("c0;c0;p0 " + number + ";", 9);
            faults("c0;c0;x0  " + number + " ;", 10);
            faults("c0;c0;s" + number + ";", 7);
            faults("c0 " + number + ";", 3);
            faults("c0;" + number + ";", 3);
        }
    }

    /** "or with a 0 ahead of others". */
    private void numbersWithA0Ahead() {
        reads("c0;s0;", 2);
        for (String number : new String[] {"00", "01", "09", "000", "001", "010", "0000000000"}) {
            faults("c" + number + ";", 1);
            faults("c0;c0;p" + number + " 1;", 7);
            faults("c0;c0;p0 " + number + ";", 9);
            faults("c0;c0;s" + number + ";", 7);
            faults("c0;c0;s0" + times(" ", 3) + number + ";", 11);
        }
        reads(times("c0;", 11) + "s10;", 12);
        reads(times("c0;", 21) + "s20;p20 10;", 23);
    }

    /** "the text's length, if it ends too early". */
    private void aTextThatEndsTooEarly() {
        String text = "c0;c0;p 0 1 ; x0  0; s3;c9;c0;c0;c0;c0;c0;s10;p10  0;  ";
        int codes = 0;
        boolean within = false;
        for (int end = 1; end <= text.length(); end++) {
            char last = text.charAt(end - 1);
            if (last == ';') {
                codes++;
            }
            within = last != ';' && (within || last != ' ');
            long want = within ? -10 - end : codes;
            due("tables: the first " + end + " bytes of '" + text + "'", read(text.substring(0, end)), want);
        }
        changesNothing("tables: too early", houseWith("c0;c"), MarkOrder::tables, -10 - 4);
        changesNothing("tables: too early, blanks behind", houseWith("c0;p0   "), MarkOrder::tables, -10 - 8);
    }

    /** "each CODE is ended by ;". */
    private void everyCodeIsEndedByASemicolon() {
        faults("c0c0;", 2);
        faults("c0 c0;", 3);
        faults("c0 0;", 3);
        faults("c0;;", 3);
        faults(";", 0);
        faults("c;", 1);
        faults("c0;p;", 4);
        faults("c0;p0;", 5);
        faults("c0;p0 0 0;", 8);
        faults("c0;p0 0 s0;", 8);
        faults("c0;x;", 4);
        faults("c0;x0;", 5);
        faults("c0;x0 0 0;", 8);
        faults("c0;s;", 4);
        faults("c0;s0 0;", 6);
    }

    /** "(A, B told ahead, and as told)": the latest code is, the code itself and the next are not. */
    private void numbersAreToldAhead() {
        for (int told = 1; told <= 11; told++) {
            String ahead = times("c0;", told);
            int at = ahead.length();
            for (int n = 0; n <= 99; n++) {
                int far = String.valueOf(n).length();
                due("tables: first " + n + " of " + told, read(ahead + "p" + n + " 0;"), n < told ? told + 1 : -11 - at);
                due("tables: second " + n + " of " + told, read(ahead + "p0 " + n + ";"), n < told ? told + 1 : -13 - at);
                due("tables: outcast's first " + n, read(ahead + "x" + n + " 0;"), n < told ? told + 1 : -11 - at);
                due("tables: outcast's second " + n, read(ahead + "x0 " + n + ";"), n < told ? told + 1 : -13 - at);
                due("tables: single of " + n, read(ahead + "s " + n + ";"), n < told ? told + 1 : -12 - at);
                due("tables: behind it", read(ahead + "c" + n), n <= 9 ? -11 - at - far : -11 - at);
            }
        }
        faults("p0 0;", 1);
        faults("x0 0;", 1);
        faults("s0;", 1);
        reads(times("c0;", 23) + "s22;", 24);
        faults(times("c0;", 23) + "s23;", 70);
        // What an earlier reading told is not told ahead.
        MarkOrder x = told(TABLES);
        write(x, "c0;s1;");
        due("tables: told by the tables read ahead", x.tables(), -10 - 4);
    }

    /** "A is a BASE, PLAIN or a PAIR"; "an OUTCAST: A likewise". */
    private void firstOnesAreBasesPlainOrPairs() {
        for (String sort : new String[] {"p", "x"}) {
            reads("c0;c1;" + sort + "0 1;", 3);
            reads("c0;c1;p0 1;" + sort + "2 1;", 4);
            faults("c0;c1;" + sort + "1 1;", 7);
            faults("c0;c9;" + sort + "1 0;", 7);
            faults("c0;c1;x0 1;" + sort + "2 1;", 12);
            faults("c0;c1;s0;" + sort + "2 1;", 10);
            faults("c0;c1;s1;" + sort + "2 1;", 10);
            faults("c0;c1;p0 1;s2;" + sort + "3 1;", 15);
        }
    }

    /** "B is PLAIN". */
    private void secondOnesArePlain() {
        for (String sort : new String[] {"p", "x"}) {
            reads("c0;c1;" + sort + "0 0;", 3);
            reads("c0;c1;" + sort + "0 1;", 3);
            faults("c0;c1;p0 1;" + sort + "0 2;", 14);
            faults("c0;c1;x0 1;" + sort + "0 2;", 14);
            faults("c0;c1;s0;" + sort + "0 2;", 12);
            faults("c0;c1;s1;" + sort + "0 2;", 12);
        }
    }

    /** "a BASE or of no lower CLASS than A's last PIECE". */
    private void secondOnesOfPairsAreOfNoLowerClass() {
        for (int last = 1; last <= 9; last++) {
            for (int n = 0; n <= 9; n++) {
                String text = "c0;c" + last + ";p0 1;c" + n + ";p2 3;";
                due("tables of '" + text + "'", read(text), n == 0 || n >= last ? 5 : -10 - 17);
            }
        }
        for (int n = 0; n <= 9; n++) {
            reads("c0;c" + n + ";p0 1;", 3);
        }
    }

    /** The last piece, not the highest and not the first. */
    private void theLastPieceTellsTheClass() {
        reads("c0;c5;c1;p0 1;p3 0;p4 2;", 6);
        faults("c0;c5;c1;c2;p0 2;p4 1;p5 3;", 25);
        reads("c0;c5;c1;c2;p0 2;p4 3;p5 1;", 7);
        reads("c0;c0;c1;p0 1;p3 2;", 5);
    }

    /** "B is PLAIN", and no more is asked of an outcast's. */
    private void secondOnesOfOutcastsAreOfAnyClass() {
        for (int n = 0; n <= 9; n++) {
            reads("c0;c5;p0 1;c" + n + ";x2 3;", 5);
        }
    }

    /** "no two PAIRS of the same A and B"; "two PAIRS alike (at B)". */
    private void noTwoPairsAlike() {
        faults("c0;c0;p0 1;p0 1;", 14);
        faults("c0;c0;p0 1;p0   1", 16);
        faults("c0;c0;p0 0;p0 1;p1 0;p1 1;p0 0;", 29);
        faults("c0;c0;p0 0;p0 1;p1 0;p1 1;p1 1;", 29);
        reads("c0;c0;p0 0;p0 1;p1 0;p1 1;", 6);
        reads("c0;c0;x0 1;x0 1;p0 1;x0 1;", 6);
        // Alike in their pieces, but not of the same two.
        reads("c0;c0;p0 0;p2 0;s2;p0 1;p2 1;", 7);
        MarkOrder x = told("c0;c0;p0 1;");
        write(x, "c0;c0;p0 1;");
        due("tables: like a pair of the tables read ahead", x.tables(), 3);
    }

    private static String pairs(int many) {
        StringBuilder text = new StringBuilder("c0;c1;c1;c1;c1;c1;c1;c1;c1;");
        for (int b = 1; b <= many; b++) {
            text.append("p0 ").append(b).append(';');
        }
        return text.toString();
    }

    /** "an eighth PAIR". */
    private void pairsAre7AtMost() {
        reads(pairs(0), 9);
        reads(pairs(6), 15);
        reads(pairs(7), 16);
        faults(pairs(8), 62);
        faults(pairs(7) + "  p", 64);
        faults(pairs(7) + "p99 0;", 62);
        faults(pairs(7) + "p0 1;", 62);
        reads(pairs(7) + "c0;x0 8;s0;", 19);
        changesNothing("tables: an eighth pair", houseWith(pairs(8)), MarkOrder::tables, -10 - 62);
        MarkOrder x = told(pairs(7));
        due("tables: seven pairs", x.count(PAIRS), 7);
        due("tables: the seventh", x.pair(0, 7), 15);
        due("tables: the first", x.pair(0, 1), 9);
        write(x, pairs(7));
        due("tables: seven pairs again", x.tables(), 16);
    }

    private void outcastsAndSinglesAreNotCountedAsPairs() {
        reads("c0;" + times("x0 0;", 23), 24);
        reads("c0;" + times("s0;", 23), 24);
        reads("c0;" + times("x0 0;", 8) + "p0 0;" + times("s0;", 8), 18);
    }

    /** "(4 at most)"; "one by which there would be more than 4 PIECES (at A)". */
    private void piecesAre4AtMost() {
        String three = "c0;p0 0;p1 0;";
        String four = "c0;p0 0;p1 0;p2 0;";
        due("pieces: three", told(three).code(2, 4), 3);
        due("pieces: four", told(four).code(3, 4), 4);
        for (String sort : new String[] {"p", "x"}) {
            due("pieces: four by " + sort, told(three + sort + "2 0;").code(3, 4), 4);
            faults(four + sort + "3 0;", 19);
            faults(four + sort + "3 9;", 19);
            faults(four + sort + "3", 19);
            faults(four + sort + " 3 0;", 20);
            changesNothing("pieces: five by " + sort, houseWith(four + sort + "3 0;"), MarkOrder::tables, -10 - 19);
        }
        due("pieces: four of a single", told(four + "s3;").code(4, 4), 4);
        due("pieces: four of a single of a single", told(four + "s3;s4;").code(5, 4), 4);
        due("pieces: four of a single of an outcast", told(three + "x2 0;s3;").code(4, 4), 4);
    }

    /** "it is a BASE", whatever its pieces are. */
    private void pairsAndOutcastsAreBases() {
        for (int n = 0; n <= 9; n++) {
            MarkOrder x = told("c0;c" + n + ";p0 1;x0 1;p2 1;");
            due("class of a pair with " + n, x.code(2, 0), 0);
            due("class of an outcast with " + n, x.code(3, 0), 0);
            due("class of a pair of a pair with " + n, x.code(4, 0), 0);
        }
    }

    /** "a SINGLE; of A's CLASS". */
    private void singlesAreOfTheClassOfTheirOne() {
        for (int n = 0; n <= 9; n++) {
            MarkOrder x = told("c" + n + ";s0;s1;");
            due("class of a single of " + n, x.code(1, 0), n);
            due("class of a single of that", x.code(2, 0), n);
            due("marks of " + n, x.count(MARKS), n == 0 ? 0 : 3);
        }
        MarkOrder x = told("c0;c9;p0 1;x0 1;s2;s3;");
        due("class of a single of a pair", x.code(4, 0), 0);
        due("class of a single of an outcast", x.code(5, 0), 0);
    }

    /** "the first byte of the first TOKEN that can't stand there". */
    private void theFirstFaultIsTold() {
        faults("c10;@", 1);
        faults("c0;p1 @", 4);
        faults("c0;p0 1 @", 6);
        faults("@;c10;", 0);
        faults("c0;zz 100", 3);
        faults("c0;p100 00", 4);
        faults("c0;p0 00 100", 6);
        faults("c0 @ c", 3);
        faults("c0; Zc", 4);
    }

    /** "-10 less FAULT: nothing changes": neither THE TEXT nor all else. */
    private void aFaultChangesNothing() {
        changesNothing("tables: fault at 0", houseWith("@c0;"), MarkOrder::tables, -10);
        changesNothing("tables: fault behind codes", houseWith("c0;c3;p0 1;s2;x0 1;cc"), MarkOrder::tables, -10 - 19);
        changesNothing("tables: pairs alike", houseWith("c0;c3;p0 1;p0 1;"), MarkOrder::tables, -10 - 14);
        changesNothing("tables: no semicolon", houseWith("c0;c3;p0 1;p0 0 c"), MarkOrder::tables, -10 - 16);
        MarkOrder x = made(houseWith("c0;c3"));
        due("tables: a fault", x.tables(), -10 - 5);
        due("tables: the text stays", x.count(BYTES), 5);
        x.type(';');
        due("tables: it can be mended", x.tables(), 2);
        due("tables: and is empty then", x.count(BYTES), 0);
    }

    /** "Read anew: TEXTS, THE PIPE are empty, nothing can be UNDONE, IMAGES are gone." */
    private void readAnewAllIsGone() {
        Consumer<MarkOrder> both = houseWith(TABLES).andThen(x -> x.keep(0));
        sameLooks("anew: the same tables", x -> tell(x, TABLES), both.andThen(MarkOrder::tables));
        sameLooks("anew: fewer", x -> tell(x, "c4;"), houseWith("c4;").andThen(MarkOrder::tables));
        sameLooks("anew: none", x -> { }, houseWith("").andThen(MarkOrder::tables));
        sameLooks("anew: blanks", x -> { }, houseWith("  ").andThen(MarkOrder::tables));
        MarkOrder x = made(both.andThen(MarkOrder::tables));
        due("anew: nothing to undo", x.undo(), STATE);
        due("anew: image 0", x.back(0), STATE);
        due("anew: image 1", x.back(1), STATE);
    }

    /** "Of a CODE: 0 .. 8"; "BAD." */
    private void codeTakesCodesAndWhats() {
        for (int what = 0; what <= 8; what++) {
            int fixed = what;
            range("code(c, " + what + ")", Trial::house, 0, TABLES_CODES - 1, (x, n) -> x.code(n, fixed));
        }
        range("code(0, what)", Trial::house, 0, 8, (x, n) -> x.code(0, n));
        range("code(13, what)", Trial::house, 0, 8, (x, n) -> x.code(13, n));
        range("code(c, 0) of 24", x -> tell(x, times("c0;", 24)), 0, 23, (x, n) -> x.code(n, 0));
        range("code(c, 0) of 1", x -> tell(x, "c0;"), 0, 0, (x, n) -> x.code(n, 0));
        due("code: both are wrong", made(Trial::house).code(TABLES_CODES, 9), BAD);
    }

    private void dueCode(MarkOrder x, int c, int... want) {
        for (int what = 0; what <= 8; what++) {
            due("code " + c + ", " + what, x.code(c, what), want[what]);
        }
    }

    /** "2 its first one (NONE), 3 its second one (NONE) .. the PIECE 0 .. 3 (NONE)". */
    private void codeAnswersNone() {
        MarkOrder x = told("c0;c2;p0 1;p2 1;p3 1;x0 1;x3 1;s4;s1;");
        dueCode(x, 0, 0, 0, NONE, NONE, 1, 0, NONE, NONE, NONE);
        dueCode(x, 1, 2, 0, NONE, NONE, 1, 1, NONE, NONE, NONE);
        dueCode(x, 2, 0, 1, 0, 1, 2, 0, 1, NONE, NONE);
        dueCode(x, 3, 0, 1, 2, 1, 3, 0, 1, 1, NONE);
        dueCode(x, 4, 0, 1, 3, 1, 4, 0, 1, 1, 1);
        dueCode(x, 5, 0, 2, 0, 1, 2, 0, 1, NONE, NONE);
        dueCode(x, 6, 0, 2, 3, 1, 4, 0, 1, 1, 1);
        dueCode(x, 7, 0, 3, 4, NONE, 4, 0, 1, 1, 1);
        dueCode(x, 8, 2, 3, 1, NONE, 1, 1, NONE, NONE, NONE);
    }

    /** "The PAIR of two CODES; NONE. BAD." */
    private void pairTakesCodes() {
        range("pair(a, 2)", Trial::house, 0, TABLES_CODES - 1, (x, n) -> x.pair(n, 2));
        range("pair(0, b)", Trial::house, 0, TABLES_CODES - 1, (x, n) -> x.pair(0, n));
        range("pair(a, a) of 24", x -> tell(x, times("c0;", 24)), 0, 23, (x, n) -> x.pair(n, n));
        MarkOrder x = told("c0;c0;p0 1;x1 0;x1 1;p2 1;");
        int[][] want = {{NONE, 2}, {NONE, NONE}, {NONE, 5}};
        for (int a = 0; a < want.length; a++) {
            for (int b = 0; b < 2; b++) {
                due("pair of " + a + " and " + b, x.pair(a, b), want[a][b]);
            }
        }
        due("pair: of a pair's pieces in one", x.pair(5, 1), NONE);
        due("pair: of a plain one's none", told("c0;").pair(0, 0), NONE);
        MarkOrder y = told("c0;c1;p0 1;s0;s1;s2;x2 1;");
        for (int a = 0; a < 7; a++) {
            for (int b = 0; b < 7; b++) {
                due("pair: a single is not its one, " + a + " and " + b, y.pair(a, b), a == 0 && b == 1 ? 2 : NONE);
            }
        }
        due("pair: NONE is no code", x.pair(0, NONE), BAD);
        due("pair: of none at all", new MarkOrder().pair(0, 0), BAD);
    }
}
