/** Each promise of the document by hand: ordinary inputs, the edges it names, wrong inputs. */
public final class PromisesTest extends Trial {
    private static final int[] WILD = {-1, -2, Integer.MIN_VALUE, Integer.MAX_VALUE};

    private PromisesTest() {
        super("PromisesTest");
    }

    public static void main(String[] args) {
        new PromisesTest().go();
    }

    private void go() {
        promise1New();
        promise2Type();
        promise3Clear();
        promise4Tables();
        promise4Faults();
        promise4ReadAnew();
        promise5Code();
        promise6Pair();
        promise7Puts();
        promise8Cuts();
        promise9Appends();
        promise10Forms();
        promise11Undo();
        promise12At();
        promise13Apart();
        promise13Joined();
        promise13OtherRules();
        promise14Quick();
        promise15Same();
        promise16Seam();
        promise17Spellings();
        promise18Pipes();
        promise19Unpipe();
        promise20Piped();
        promise21Fixed();
        promise22Keep();
        promise23Back();
        promise24Count();
        end();
    }

    private void promise1New() {
        MarkOrder x = new MarkOrder();
        for (int what = 0; what <= 7; what++) {
            due("1 new: count " + what, x.count(what), 0);
        }
        due("1 new: no code", x.code(0, 0), BAD);
        due("1 new: no pair", x.pair(0, 0), BAD);
        due("1 new: nothing to put", x.puts(0, 0), BAD);
        for (int t = 0; t < 4; t++) {
            dueText("1 new: text " + t, x, t);
        }
        due("1 new: no undo", x.undo(), STATE);
        due("1 new: no image", x.back(0), STATE);
        due("1 new: quick apart", x.quick(0, 0), 1);
        due("1 new: quick joined", x.quick(0, 1), 1);
        due("1 new: spellings", x.spellings(3), 1);
        due("1 new: fixed", x.fixed(0), 0);
        x.type('c');
        due("1 new: objects are apart", new MarkOrder().count(7), 0);
    }

    private void promise2Type() {
        MarkOrder x = new MarkOrder();
        due("2 type: lowest", x.type(0), 1);
        due("2 type: highest", x.type(255), 2);
        due("2 type: below", x.type(-1), BAD);
        due("2 type: above", x.type(256), BAD);
        for (int n : WILD) {
            due("2 type: wild", x.type(n), BAD);
        }
        due("2 type: refused ones change nothing", x.count(7), 2);
        for (int i = 3; i <= 150; i++) {
            due("2 type: up to 150", x.type(' '), i);
        }
        due("2 type: full", x.type(' '), FULL);
        due("2 type: BAD ahead of FULL", x.type(256), BAD);
        due("2 type: still 150", x.count(7), 150);
    }

    private void promise3Clear() {
        MarkOrder x = new MarkOrder();
        due("3 clear: none", x.clear(), 0);
        write(x, "c0;@");
        due("3 clear: had", x.clear(), 4);
        due("3 clear: empty", x.count(7), 0);
        due("3 clear: again", x.clear(), 0);
        write(x, "c3;");
        due("3 clear: old bytes are gone", x.tables(), 1);
        write(x, "c");
        x.clear();
        due("3 clear: codes stay", x.code(0, 0), 3);
    }

    private void promise4Tables() {
        due("4 tables: empty", read(""), 0);
        due("4 tables: blanks", read("   "), 0);
        due("4 tables: one", read("c9;"), 1);
        due("4 tables: blanks all over", read("  c  0 ;  c 1;p 0  1 ; "), 3);
        due("4 tables: no blanks needed between kinds of tokens", read("c0;c0;p0 1;x0 1;s0;"), 5);
        due("4 tables: 24 codes", read("c0;c0;c0;c0;c0;c0;c0;c0;c0;c0;c0;c0;c0;c0;c0;c0;c0;c0;c0;c0;c0;c0;c0;c0;"), 24);
        due("4 tables: 7 pairs", read("c0;c1;c1;c1;c1;c1;c1;c1;p0 1;p0 2;p0 3;p0 4;p0 5;p0 6;p0 7;"), 15);
        due("4 tables: a pair of one code twice", read("c0;p0 0;"), 2);
        due("4 tables: four pieces", read("c0;p0 0;p1 0;p2 0;"), 4);
        due("4 tables: an outcast of four pieces", read("c0;p0 0;p1 0;x2 0;"), 4);
        due("4 tables: a single of four pieces", read("c0;p0 0;p1 0;p2 0;s3;s4;"), 6);
        due("4 tables: class as high as the last piece's", read("c0;c3;p0 1;p2 1;"), 4);
        due("4 tables: a base behind a mark", read("c0;c3;p0 1;p2 0;"), 4);
        due("4 tables: an outcast's second one of lower class", read("c0;c3;c1;p0 1;x3 2;"), 5);
        due("4 tables: outcasts may be alike, and like a pair", read("c0;c1;x0 1;x0 1;p0 1;x0 1;"), 6);
        due("4 tables: a single of an outcast, of a mark", read("c0;c1;x0 1;s2;s1;"), 5);
        MarkOrder x = new MarkOrder();
        write(x, "c0;c1;");
        due("4 tables: read", x.tables(), 2);
        due("4 tables: the text is empty then", x.count(7), 0);
        due("4 tables: read of nothing", x.tables(), 0);
        due("4 tables: no codes then", x.count(0), 0);
    }

    private void dueFault(String text, int place) {
        MarkOrder x = told("c0;c4;");
        put(x, 2, 1);
        x.pipes(BACK);
        x.keep(1);
        write(x, text);
        due("4 tables: fault in '" + text + "'", x.tables(), -10 - place);
        due("4 tables: the text stays: '" + text + "'", x.count(7), text.length());
        due("4 tables: codes stay", x.count(0), 2);
        due("4 tables: code 1 stays", x.code(1, 0), 4);
        dueText("4 tables: texts stay", x, 2, 1);
        due("4 tables: the pipe stays", x.count(5), 1);
        due("4 tables: undo stays", x.count(6), 1);
        due("4 tables: image stays", x.back(1), 1);
    }

    private void promise4Faults() {
        dueFault("c", 1);
        dueFault("c ", 2);
        dueFault("c0", 2);
        dueFault("c0;c0;p0", 8);
        dueFault("c0;c0;p0 1", 10);
        dueFault("c0;c0;p0 1  ", 12);
        dueFault("cc0;", 0);
        dueFault("ca0;", 0);
        dueFault("cz0;", 0);
        dueFault("zc0;", 0);
        dueFault("c0; pp0 0;", 4);
        dueFault("y0;", 0);
        dueFault("C0;", 0);
        dueFault("0;", 0);
        dueFault(";", 0);
        dueFault("c0;;", 3);
        dueFault("c;", 1);
        dueFault("c c", 2);
        dueFault("c10;", 1);
        dueFault("c00;", 1);
        dueFault("c01;", 1);
        dueFault("c 100;", 2);
        dueFault("c 4294967296;", 2);
        dueFault("c 99999999999999999999999999;", 2);
        dueFault("c0 0;", 3);
        dueFault("c0 c", 3);
        dueFault("c0c0;", 2);
        dueFault("c0\u0000;", 2);
        dueFault("c0;\u00ff", 3);
        dueFault("c0\t;", 2);
        dueFault("c0;`", 3);
        dueFault("c0;{", 3);
        dueFault("c/;", 1);
        dueFault("c:;", 1);
        dueFault("c0;p 1 0;", 5);
        dueFault("c0;p0 1;", 6);
        dueFault("c0;p0 00;", 6);
        dueFault("c0;p00 0;", 4);
        dueFault("c0;c1;p1 0;", 7);
        dueFault("c0;x0 0;p1 0;", 9);
        dueFault("c0;s0;p1 0;", 7);
        dueFault("c0;s0;p0 1;", 9);
        dueFault("c0;p0 0;p0 1;", 11);
        dueFault("c0;x0 0;p0 1;", 11);
        dueFault("c0;c3;c2;p0 1;p3 2;", 17);
        dueFault("c0;c1;p0 1;p0 1;", 14);
        dueFault("c0;c1;p0 1;p0 1 9", 14);
        dueFault("c0;p0 0;p1 0;p2 0;p3 0;", 19);
        dueFault("c0;p0 0;p1 0;p2 0;x3 0;", 19);
        dueFault("c0;c1;x1 0;", 7);
        dueFault("c0;s0;x1 0;", 7);
        dueFault("c0;x0 0;x1 0;", 9);
        dueFault("c0;s0;x0 1;", 9);
        dueFault("c0;p0 0;x0 1;", 11);
        dueFault("c0;x1 0;", 4);
        dueFault("c0;x0 1;", 6);
        dueFault("s0;", 1);
        dueFault("c0;s1;", 4);
        dueFault("c0;s 0 0;", 7);
        dueFault("c0;x0;", 5);
        String codes24 = "c0;c0;c0;c0;c0;c0;c0;c0;c0;c0;c0;c0;c0;c0;c0;c0;c0;c0;c0;c0;c0;c0;c0;c0;";
        dueFault(codes24 + "c0;", 72);
        dueFault(codes24 + " s", 73);
        String pairs7 = "c0;c1;c1;c1;c1;c1;c1;c1;c1;p0 1;p0 2;p0 3;p0 4;p0 5;p0 6;p0 7;";
        dueFault(pairs7 + " p0 8;", 63);
        dueFault(pairs7 + "x0 8;p0 8;", 67);
    }

    private void promise4ReadAnew() {
        MarkOrder x = told(TABLES);
        put(x, 0, 0, 1);
        put(x, 3, 2);
        x.pipes(BACK);
        x.keep(0);
        x.keep(1);
        write(x, "c7;");
        due("4 anew: read", x.tables(), 1);
        for (int t = 0; t < 4; t++) {
            dueText("4 anew: text " + t, x, t);
        }
        due("4 anew: the pipe", x.count(5), 0);
        due("4 anew: count of undo", x.count(6), 0);
        due("4 anew: undo", x.undo(), STATE);
        due("4 anew: image 0", x.back(0), STATE);
        due("4 anew: image 1", x.back(1), STATE);
        due("4 anew: the new code", x.code(0, 0), 7);
        due("4 anew: old codes", x.code(1, 0), BAD);
        due("4 anew: old pairs", x.count(2), 0);
        write(x, TABLES);
        due("4 anew: and back", x.tables(), 14);
        due("4 anew: pairs again", x.pair(6, 3), 7);
    }

    private void dueCode(MarkOrder x, int c, int... want) {
        for (int what = 0; what <= 8; what++) {
            due("5 code: " + c + ", " + what, x.code(c, what), want[what]);
        }
    }

    private void promise5Code() {
        MarkOrder x = told(TABLES);
        dueCode(x, 0, 0, 0, NONE, NONE, 1, 0, NONE, NONE, NONE);
        dueCode(x, 5, 5, 0, NONE, NONE, 1, 5, NONE, NONE, NONE);
        dueCode(x, 6, 0, 1, 0, 2, 2, 0, 2, NONE, NONE);
        dueCode(x, 7, 0, 1, 6, 3, 3, 0, 2, 3, NONE);
        dueCode(x, 10, 0, 2, 1, 2, 2, 1, 2, NONE, NONE);
        dueCode(x, 11, 0, 3, 7, NONE, 3, 0, 2, 3, NONE);
        dueCode(x, 12, 2, 3, 3, NONE, 1, 3, NONE, NONE, NONE);
        MarkOrder four = told("c0;c3;p0 1;p2 0;p3 1;s4;s5;");
        dueCode(four, 4, 0, 1, 3, 1, 4, 0, 1, 0, 1);
        dueCode(four, 6, 0, 3, 5, NONE, 4, 0, 1, 0, 1);
        due("5 code: no such code", x.code(14, 0), BAD);
        due("5 code: no such what", x.code(0, 9), BAD);
        for (int n : WILD) {
            due("5 code: wild code", x.code(n, 0), BAD);
            due("5 code: wild what", x.code(0, n), BAD);
        }
    }

    private void promise6Pair() {
        MarkOrder x = told(TABLES);
        due("6 pair: of plain ones", x.pair(0, 2), 6);
        due("6 pair: of a pair", x.pair(6, 3), 7);
        due("6 pair: of bases", x.pair(0, 1), 8);
        due("6 pair: the other way round", x.pair(2, 0), NONE);
        due("6 pair: an outcast is none", x.pair(1, 2), NONE);
        due("6 pair: a single stands for no part", x.pair(0, 12), NONE);
        due("6 pair: a single is none", x.pair(7, NONE), BAD);
        due("6 pair: none", x.pair(0, 4), NONE);
        due("6 pair: no such first", x.pair(14, 2), BAD);
        due("6 pair: no such second", x.pair(0, 14), BAD);
        for (int n : WILD) {
            due("6 pair: wild first", x.pair(n, 2), BAD);
            due("6 pair: wild second", x.pair(0, n), BAD);
        }
    }

    private void promise7Puts() {
        MarkOrder x = told(TABLES);
        for (int i = 0; i < 16; i++) {
            due("7 puts: up to 16", x.puts(3, i % 14), i + 1);
        }
        due("7 puts: full", x.puts(3, 0), FULL);
        due("7 puts: BAD code ahead of FULL", x.puts(3, 14), BAD);
        due("7 puts: BAD code", x.puts(0, 14), BAD);
        due("7 puts: BAD text", x.puts(4, 0), BAD);
        for (int n : WILD) {
            due("7 puts: wild text", x.puts(n, 0), BAD);
            due("7 puts: wild code", x.puts(0, n), BAD);
        }
        dueText("7 puts: order", x, 3, 0, 1, 2, 3, 4, 5, 6, 7, 8, 9, 10, 11, 12, 13, 0, 1);
        dueText("7 puts: other texts stay", x, 0);
        due("7 puts: refused ones are not undone", x.undo(), 9);
        due("7 puts: the last is gone", x.at(3, -1), 15);
    }

    private void promise8Cuts() {
        MarkOrder x = told(TABLES);
        put(x, 1, 5, 11);
        due("8 cuts: none in text 0", x.cuts(0), STATE);
        due("8 cuts: the last", x.cuts(1), 11);
        dueText("8 cuts: the rest", x, 1, 5);
        due("8 cuts: the first", x.cuts(1), 5);
        due("8 cuts: none is left", x.cuts(1), STATE);
        due("8 cuts: no such text", x.cuts(4), BAD);
        for (int n : WILD) {
            due("8 cuts: wild text", x.cuts(n), BAD);
        }
        due("8 cuts: refused ones are not undone", x.count(6), 4);
    }

    private void promise9Appends() {
        MarkOrder x = told(TABLES);
        put(x, 0, 0, 2, 3);
        put(x, 1, 4, 5);
        due("9 appends: two", x.appends(0, 1), 5);
        dueText("9 appends: behind", x, 0, 0, 2, 3, 4, 5);
        dueText("9 appends: the other stays", x, 1, 4, 5);
        due("9 appends: itself", x.appends(1, 1), 4);
        dueText("9 appends: itself twice", x, 1, 4, 5, 4, 5);
        due("9 appends: of an empty one", x.appends(1, 3), 4);
        due("9 appends: that counts too", x.count(6), 8);
        due("9 appends: of an empty one to itself", x.appends(3, 3), 0);
        x.appends(0, 0);
        x.appends(0, 1);
        due("9 appends: too many", x.appends(0, 1), FULL);
        due("9 appends: up to 16", x.appends(0, 2), 14);
        x.cuts(1);
        x.cuts(1);
        due("9 appends: just 16", x.appends(0, 1), 16);
        due("9 appends: too many by itself", x.appends(0, 0), FULL);
        dueText("9 appends: all", x, 0, 0, 2, 3, 4, 5, 0, 2, 3, 4, 5, 4, 5, 4, 5, 4, 5);
        due("9 appends: no such text", x.appends(4, 0), BAD);
        due("9 appends: no such other text", x.appends(0, 4), BAD);
        for (int n : WILD) {
            due("9 appends: wild text", x.appends(n, 0), BAD);
            due("9 appends: wild other text", x.appends(0, n), BAD);
        }
    }

    private void promise10Forms() {
        MarkOrder x = told(TABLES);
        put(x, 0, 11, 12);
        due("10 forms: apart", x.forms(0, APART), 4);
        dueText("10 forms: apart", x, 0, 0, 2, 3, 3);
        due("10 forms: joined", x.forms(0, JOINED), 2);
        dueText("10 forms: joined", x, 0, 7, 3);
        due("10 forms: back", x.forms(0, BACK), 2);
        dueText("10 forms: back", x, 0, 3, 7);
        due("10 forms: bare", x.forms(0, BARE), 1);
        dueText("10 forms: bare", x, 0, 0);
        due("10 forms: what changes nothing", x.forms(0, SORTED), 1);
        due("10 forms: counts too", x.count(6), 7);
        put(x, 1, 7, 7, 7, 7, 7);
        due("10 forms: 15", x.forms(1, APART), 15);
        x.undo();
        put(x, 1, 2);
        due("10 forms: just 16", x.forms(1, APART), 16);
        x.undo();
        put(x, 1, 2);
        int undone = x.count(6);
        due("10 forms: more than 16", x.forms(1, APART), FULL);
        dueText("10 forms: nothing changes", x, 1, 7, 7, 7, 7, 7, 2, 2);
        due("10 forms: nothing to undo of it", x.count(6), undone);
        due("10 forms: joined is fewer again", x.forms(1, JOINED), 7);
        due("10 forms: no such text", x.forms(4, 0), BAD);
        due("10 forms: no such rule", x.forms(0, 6), BAD);
        due("10 forms: BAD ahead of FULL", x.forms(1, 6), BAD);
        for (int n : WILD) {
            due("10 forms: wild text", x.forms(n, 0), BAD);
            due("10 forms: wild rule", x.forms(0, n), BAD);
        }
    }

    private void promise11Undo() {
        MarkOrder x = told(TABLES);
        put(x, 0, 3, 2);
        put(x, 1, 11);
        x.cuts(0);
        x.appends(1, 0);
        x.forms(1, APART);
        dueText("11 undo: ahead of all", x, 1, 0, 2, 3, 3);
        due("11 undo: forms", x.undo(), 5);
        dueText("11 undo: forms", x, 1, 11, 3);
        due("11 undo: appends", x.undo(), 4);
        dueText("11 undo: appends", x, 1, 11);
        due("11 undo: cuts", x.undo(), 3);
        dueText("11 undo: cuts", x, 0, 3, 2);
        due("11 undo: puts", x.undo(), 2);
        dueText("11 undo: puts", x, 1);
        x.pipes(BACK);
        x.keep(0);
        due("11 undo: count", x.count(6), 2);
        due("11 undo: two puts", x.undo(), 1);
        due("11 undo: the last", x.undo(), 0);
        due("11 undo: none", x.undo(), STATE);
        due("11 undo: the pipe stays", x.count(5), 1);
        for (int i = 0; i < 13; i++) {
            x.puts(2, i);
        }
        due("11 undo: 10 are known", x.count(6), 10);
        for (int i = 9; i >= 0; i--) {
            due("11 undo: of ten", x.undo(), i);
        }
        due("11 undo: older ones are lost", x.undo(), STATE);
        dueText("11 undo: what is lost stays", x, 2, 0, 1, 2);
        put(x, 2, 5);
        due("11 undo: goes on", x.undo(), 0);
        dueText("11 undo: goes on", x, 2, 0, 1, 2);
    }

    private void promise12At() {
        MarkOrder x = told(TABLES);
        put(x, 2, 13, 5);
        due("12 at: how many", x.at(2, -1), 2);
        due("12 at: first", x.at(2, 0), 13);
        due("12 at: second", x.at(2, 1), 5);
        due("12 at: behind", x.at(2, 2), BAD);
        due("12 at: -2", x.at(2, -2), BAD);
        due("12 at: wild", x.at(2, Integer.MAX_VALUE), BAD);
        due("12 at: wild", x.at(2, Integer.MIN_VALUE), BAD);
        due("12 at: no such text", x.at(4, -1), BAD);
        for (int n : WILD) {
            due("12 at: wild text", x.at(n, -1), BAD);
        }
        x.cuts(2);
        due("12 at: what was cut", x.at(2, 1), BAD);
    }

    private void promise13Apart() {
        MarkOrder x = told(TABLES);
        dueRuled("13 apart: none", x, 0, APART);
        put(x, 0, 5, 3, 2, 4, 11, 12, 2, 13, 10);
        dueRuled("13 apart: sorted between bases", x, 0, APART, 2, 3, 4, 5, 0, 2, 2, 3, 3, 1, 1, 2);
        dueText("13 apart: nothing is changed", x, 0, 5, 3, 2, 4, 11, 12, 2, 13, 10);
        put(x, 1, 4, 3, 4, 12);
        dueRuled("13 apart: those of one class stay", x, 1, APART, 4, 3, 4, 3);
        MarkOrder four = told("c0;p0 0;p1 0;p2 0;");
        for (int i = 0; i < 16; i++) {
            four.puts(0, 3);
        }
        due("13 apart: 64 pieces", four.ruled(0, APART, -1), 64);
        due("13 apart: the last of 64", four.ruled(0, APART, 63), 0);
        due("13 apart: behind 64", four.ruled(0, APART, 64), BAD);
        due("13 apart: no such text", x.ruled(4, 0, -1), BAD);
        due("13 apart: no such rule", x.ruled(0, 6, -1), BAD);
        due("13 apart: -2", x.ruled(0, 0, -2), BAD);
        for (int n : WILD) {
            due("13 apart: wild text", x.ruled(n, 0, -1), BAD);
            due("13 apart: wild rule", x.ruled(0, n, -1), BAD);
        }
        due("13 apart: wild place", x.ruled(0, 0, Integer.MAX_VALUE), BAD);
    }

    private void promise13Joined() {
        MarkOrder x = told(TABLES);
        put(x, 0, 0, 3, 2);
        dueRuled("13 joined: sorted first", x, 0, JOINED, 7);
        put(x, 1, 0, 4, 3);
        dueRuled("13 joined: blocked by one of its class", x, 1, JOINED, 0, 4, 3);
        put(x, 2, 3, 2, 0, 1, 2);
        dueRuled("13 joined: marks ahead of the first base stay", x, 2, JOINED, 2, 3, 8, 2);
        put(x, 3, 0, 5, 1);
        dueRuled("13 joined: a base is blocked by any mark", x, 3, JOINED, 0, 5, 1);
        clearText(x, 3);
        put(x, 3, 10, 13, 2, 11);
        dueRuled("13 joined: an outcast is not joined again", x, 3, JOINED, 1, 2, 1, 2, 7);
        clearText(x, 3);
        put(x, 3, 0, 2, 1);
        dueRuled("13 joined: a base behind a joined mark", x, 3, JOINED, 6, 1);
        MarkOrder y = told("c0;c1;c2;c3;p0 2;p4 3;c0;p0 6;p7 1;");
        put(y, 0, 0, 1, 2, 3);
        dueRuled("13 joined: past a lower mark that stayed", y, 0, JOINED, 5, 1);
        put(y, 1, 0, 6, 1, 6, 2, 0, 3, 2);
        dueRuled("13 joined: a new L takes over", y, 1, JOINED, 8, 6, 2, 5);
        put(y, 2, 0, 3, 3, 2, 6);
        dueRuled("13 joined: what stayed blocks the base", y, 2, JOINED, 5, 3, 6);
    }

    private void promise13OtherRules() {
        MarkOrder x = told(TABLES);
        put(x, 0, 5, 12, 11, 4, 12, 2, 10, 3);
        dueRuled("13 sorted: not taken apart", x, 0, SORTED, 12, 5, 11, 2, 4, 12, 10, 3);
        dueRuled("13 bare", x, 0, BARE, 0, 1);
        dueRuled("13 back", x, 0, BACK, 3, 10, 2, 12, 4, 11, 12, 5);
        dueRuled("13 first: ahead of the second base", x, 0, FIRST, 5, 12, 11, 4, 12, 2);
        put(x, 1, 3, 2);
        dueRuled("13 first: no base", x, 1, FIRST, 3, 2);
        dueRuled("13 bare: no base", x, 1, BARE);
        put(x, 1, 0);
        dueRuled("13 first: one base", x, 1, FIRST, 3, 2, 0);
        put(x, 1, 13);
        dueRuled("13 first: a single is a base too", x, 1, FIRST, 3, 2, 0);
        put(x, 2, 8);
        dueRuled("13 first: not taken apart", x, 2, FIRST, 8);
        dueRuled("13 bare: taken apart", x, 2, BARE, 0, 1);
        for (int rule = 0; rule <= 5; rule++) {
            dueRuled("13 rules: of none", x, 3, rule);
        }
    }

    private void promise14Quick() {
        MarkOrder x = told(TABLES);
        put(x, 0, 0, 4, 5);
        due("14 quick: apart, plain, sorted", x.quick(0, 0), 1);
        due("14 quick: joined, no second one", x.quick(0, 1), 1);
        put(x, 0, 4);
        due("14 quick: apart, not sorted", x.quick(0, 0), 0);
        due("14 quick: joined, not sorted", x.quick(0, 1), 0);
        put(x, 1, 0, 2);
        due("14 quick: apart, plain", x.quick(1, 0), 1);
        due("14 quick: joined, a second one of a pair", x.quick(1, 1), 2);
        put(x, 2, 7);
        due("14 quick: apart, a pair", x.quick(2, 0), 0);
        due("14 quick: joined, a pair", x.quick(2, 1), 1);
        put(x, 2, 10);
        due("14 quick: joined, an outcast", x.quick(2, 1), 0);
        x.cuts(2);
        put(x, 2, 12);
        due("14 quick: apart, a single", x.quick(2, 0), 0);
        due("14 quick: joined, a single", x.quick(2, 1), 0);
        x.cuts(2);
        put(x, 2, 5, 5, 0, 4);
        due("14 quick: joined, a base between", x.quick(2, 1), 1);
        put(x, 2, 2);
        due("14 quick: joined, not sorted is ahead of a second one", x.quick(2, 1), 0);
        due("14 quick: none", x.quick(3, 1), 1);
        MarkOrder y = told("c0;c0;p0 1;p1 0;");
        put(y, 0, 3);
        due("14 quick: joined, a pair whose first piece is a second one", y.quick(0, 1), 2);
        due("14 quick: no such form", x.quick(0, 2), BAD);
        due("14 quick: no such text", x.quick(4, 0), BAD);
        for (int n : WILD) {
            due("14 quick: wild form", x.quick(0, n), BAD);
            due("14 quick: wild text", x.quick(n, 0), BAD);
        }
    }

    private void promise15Same() {
        MarkOrder x = told(TABLES);
        put(x, 0, 0, 3, 2);
        put(x, 1, 11);
        due("15 same: apart", x.same(0, 1, APART), 1);
        due("15 same: joined", x.same(0, 1, JOINED), 1);
        due("15 same: sorted", x.same(0, 1, SORTED), 0);
        due("15 same: bare", x.same(0, 1, BARE), 1);
        due("15 same: back", x.same(0, 1, BACK), 0);
        due("15 same: first", x.same(0, 1, FIRST), 0);
        put(x, 1, 2);
        due("15 same: one is longer", x.same(0, 1, APART), 0);
        due("15 same: one is longer, turned", x.same(1, 0, APART), 0);
        due("15 same: with itself", x.same(1, 1, BACK), 1);
        due("15 same: of none", x.same(2, 3, JOINED), 1);
        due("15 same: one of none", x.same(0, 3, FIRST), 0);
        due("15 same: no such text", x.same(4, 0, 0), BAD);
        due("15 same: no such other text", x.same(0, 4, 0), BAD);
        due("15 same: no such rule", x.same(0, 1, 6), BAD);
        for (int n : WILD) {
            due("15 same: wild text", x.same(n, 0, 0), BAD);
            due("15 same: wild other text", x.same(0, n, 0), BAD);
            due("15 same: wild rule", x.same(0, 0, n), BAD);
        }
    }

    private void promise16Seam() {
        MarkOrder x = told(TABLES);
        dueSeam("16 seam: of none", x, JOINED, 0, 0, 0);
        put(x, 0, 1, 0);
        put(x, 1, 2, 3, 1, 5);
        dueSeam("16 seam: joined across", x, JOINED, 1, 2, 1);
        dueSeam("16 seam: apart has none", x, APART, 2, 4, 0);
        dueSeam("16 seam: back", x, BACK, 0, 0, 6);
        dueSeam("16 seam: first", x, FIRST, 1, 0, 0);
        dueSeam("16 seam: bare", x, BARE, 2, 1, 0);
        dueText("16 seam: nothing is changed", x, 0, 1, 0);
        MarkOrder y = told(TABLES);
        put(y, 0, 0, 5);
        put(y, 1, 2, 1);
        dueSeam("16 seam: sorted across", y, SORTED, 1, 1, 2);
        MarkOrder z = told(TABLES);
        put(z, 0, 5, 5, 5);
        put(z, 1, 5, 5);
        dueSeam("16 seam: none is counted twice", z, SORTED, 3, 2, 0);
        dueSeam("16 seam: back of one kind", z, BACK, 3, 2, 0);
        clearText(z, 1);
        dueSeam("16 seam: nothing behind", z, APART, 3, 0, 0);
        clearText(z, 0);
        put(z, 1, 5);
        dueSeam("16 seam: nothing ahead", z, APART, 0, 1, 0);
        MarkOrder overlap = told("c0;c0;p0 1;");
        put(overlap, 0, 0, 0, 0);
        put(overlap, 1, 0, 0);
        dueSeam("16 seam: the first ahead takes what first made", overlap, FIRST, 1, 0, 0);
        MarkOrder large = told("c0;p0 0;p1 0;p2 0;");
        for (int i = 0; i < 16; i++) {
            large.puts(0, 3);
        }
        due("16 seam: with itself, 128 pieces: ahead", large.seam(0, 0, APART, 0), 64);
        due("16 seam: with itself, 128 pieces: behind", large.seam(0, 0, APART, 1), 64);
        due("16 seam: with itself, 128 pieces: between", large.seam(0, 0, APART, 2), 0);
        due("16 seam: no such text", x.seam(4, 0, 0, 0), BAD);
        due("16 seam: no such other text", x.seam(0, 4, 0, 0), BAD);
        due("16 seam: no such rule", x.seam(0, 1, 6, 0), BAD);
        due("16 seam: no such what", x.seam(0, 1, 0, 3), BAD);
        for (int n : WILD) {
            due("16 seam: wild text", x.seam(n, 0, 0, 0), BAD);
            due("16 seam: wild other text", x.seam(0, n, 0, 0), BAD);
            due("16 seam: wild rule", x.seam(0, 0, n, 0), BAD);
            due("16 seam: wild what", x.seam(0, 0, 0, n), BAD);
        }
    }

    private void promise17Spellings() {
        MarkOrder x = told(TABLES);
        due("17 spellings: of none", x.spellings(0), 1);
        put(x, 0, 7);
        // 0 2 3 by ones, 3 or 12 last: two; 6 and 3 or 12: two; 7; 11.
        due("17 spellings: of a pair", x.spellings(0), 6);
        put(x, 1, 0, 3, 2);
        due("17 spellings: of what is sorted", x.spellings(1), 6);
        put(x, 2, 1, 2);
        // 1 or 13, then 2; or the outcast.
        due("17 spellings: with an outcast and a single", x.spellings(2), 3);
        MarkOrder many = told("c0;s0;s0;s0;s0;s0;s0;s0;s0;s0;");
        for (int i = 0; i < 16; i++) {
            many.puts(0, 0);
        }
        due("17 spellings: ten to the power of 16", many.spellings(0), 10000000000000000L);
        MarkOrder most = told("c0;p0 0;p1 0;p2 0;s0;");
        for (int i = 0; i < 16; i++) {
            most.puts(0, 3);
        }
        due("17 spellings: more than ten to the power of 18", most.spellings(0), 1000000000000000000L);
        MarkOrder all = told("c0;p0 0;p1 0;p2 0;s0;s0;s0;s0;s0;s0;s0;s0;s0;s0;s0;s0;s0;s0;s0;s0;s0;s0;s0;s0;");
        for (int i = 0; i < 16; i++) {
            all.puts(0, 3);
        }
        due("17 spellings: far more", all.spellings(0), 1000000000000000000L);
        due("17 spellings: no such text", x.spellings(4), BAD);
        for (int n : WILD) {
            due("17 spellings: wild text", x.spellings(n), BAD);
        }
    }

    private void promise18Pipes() {
        MarkOrder x = new MarkOrder();
        due("18 pipes: no such rule", x.pipes(6), BAD);
        due("18 pipes: first", x.pipes(5), 1);
        due("18 pipes: second", x.pipes(0), 2);
        due("18 pipes: third", x.pipes(0), 3);
        due("18 pipes: fourth", x.pipes(4), 4);
        due("18 pipes: full", x.pipes(0), FULL);
        due("18 pipes: BAD ahead of FULL", x.pipes(6), BAD);
        for (int n : WILD) {
            due("18 pipes: wild rule", x.pipes(n), BAD);
        }
        due("18 pipes: count", x.count(5), 4);
        due("18 pipes: not undone", x.undo(), STATE);
    }

    private void promise19Unpipe() {
        MarkOrder x = told(TABLES);
        due("19 unpipe: none", x.unpipe(), 0);
        x.pipes(BACK);
        x.pipes(BARE);
        put(x, 0, 2, 1);
        due("19 unpipe: had", x.unpipe(), 2);
        due("19 unpipe: empty", x.count(5), 0);
        duePiped("19 unpipe: nothing is made", x, 0, 2, 1);
        due("19 unpipe: room again", x.pipes(0), 1);
        due("19 unpipe: texts may be undone still", x.count(6), 2);
    }

    private void promise20Piped() {
        MarkOrder x = told(TABLES);
        put(x, 0, 11, 1, 3);
        duePiped("20 piped: no rules", x, 0, 11, 1, 3);
        x.pipes(APART);
        duePiped("20 piped: apart", x, 0, 0, 2, 3, 1, 3);
        x.pipes(BACK);
        duePiped("20 piped: back of apart", x, 0, 3, 1, 3, 2, 0);
        x.pipes(FIRST);
        duePiped("20 piped: the first of that", x, 0, 3, 1, 3, 2);
        x.pipes(SORTED);
        duePiped("20 piped: sorted", x, 0, 3, 1, 2, 3);
        dueText("20 piped: nothing is changed", x, 0, 11, 1, 3);
        duePiped("20 piped: of none", x, 1);
        x.unpipe();
        x.pipes(BACK);
        x.pipes(JOINED);
        duePiped("20 piped: the order tells", x, 0, 3, 1, 7);
        due("20 piped: no such text", x.piped(4, -1), BAD);
        due("20 piped: -2", x.piped(0, -2), BAD);
        for (int n : WILD) {
            due("20 piped: wild text", x.piped(n, -1), BAD);
        }
        due("20 piped: wild place", x.piped(0, Integer.MAX_VALUE), BAD);
        MarkOrder four = told("c0;p0 0;p1 0;p2 0;");
        for (int i = 0; i < 16; i++) {
            four.puts(0, 3);
        }
        four.pipes(APART);
        four.pipes(BACK);
        due("20 piped: 64 go through", four.piped(0, -1), 64);
    }

    private void promise21Fixed() {
        MarkOrder x = told(TABLES);
        put(x, 0, 0, 3, 2, 1);
        due("21 fixed: no rules", x.fixed(0), 0);
        x.pipes(APART);
        due("21 fixed: once", x.fixed(0), 1);
        put(x, 1, 0, 2, 3);
        due("21 fixed: is so already", x.fixed(1), 0);
        x.pipes(BACK);
        due("21 fixed: to and fro", x.fixed(0), NONE);
        due("21 fixed: of none", x.fixed(2), 0);
        dueText("21 fixed: nothing is changed", x, 0, 0, 3, 2, 1);
        due("21 fixed: no such text", x.fixed(4), BAD);
        for (int n : WILD) {
            due("21 fixed: wild text", x.fixed(n), BAD);
        }
        fixedByLength();
    }

    /** Joined to its base, turned, taken apart, turned again: each time the mark goes one base ahead. */
    private void fixedByLength() {
        MarkOrder x = told("c0;c1;p0 1;");
        x.pipes(JOINED);
        x.pipes(BACK);
        x.pipes(APART);
        x.pipes(BACK);
        for (int bases = 0; bases <= 12; bases++) {
            x.puts(0, 1);
            due("21 fixed: behind " + bases + " bases", x.fixed(0), bases <= 9 ? bases : NONE);
            x.cuts(0);
            x.puts(0, 0);
        }
    }

    private void promise22Keep() {
        MarkOrder x = told(TABLES);
        due("22 keep: of none", x.keep(0), 0);
        put(x, 0, 0, 1, 2);
        put(x, 3, 5);
        due("22 keep: all texts", x.keep(1), 4);
        due("22 keep: over the other one", x.keep(0), 4);
        due("22 keep: undo stays", x.count(6), 4);
        due("22 keep: no such image", x.keep(2), BAD);
        for (int n : WILD) {
            due("22 keep: wild image", x.keep(n), BAD);
        }
        x.cuts(3);
        due("22 keep: later changes are not in it", x.back(1), 4);
        dueText("22 keep: text 3", x, 3, 5);
    }

    private void promise23Back() {
        MarkOrder x = told(TABLES);
        put(x, 0, 0, 1);
        x.pipes(BACK);
        due("23 back: none was kept", x.back(0), STATE);
        due("23 back: refused, undo stays", x.count(6), 2);
        x.keep(0);
        put(x, 0, 2);
        put(x, 1, 3);
        x.pipes(BARE);
        x.keep(1);
        x.unpipe();
        write(x, "c1");
        due("23 back: image 0", x.back(0), 2);
        dueText("23 back: text 0", x, 0, 0, 1);
        dueText("23 back: text 1", x, 1);
        due("23 back: the pipe", x.count(5), 1);
        duePiped("23 back: the pipe's rule", x, 0, 1, 0);
        due("23 back: nothing can be undone", x.count(6), 0);
        due("23 back: nothing is undone", x.undo(), STATE);
        due("23 back: the typed text stays", x.count(7), 2);
        due("23 back: codes stay", x.count(0), 14);
        put(x, 0, 5);
        due("23 back: image 1 is kept still", x.back(1), 4);
        dueText("23 back: text 0 of it", x, 0, 0, 1, 2);
        due("23 back: its pipe", x.count(5), 2);
        due("23 back: image 0 is kept still", x.back(0), 2);
        dueText("23 back: image 0 is as it was", x, 0, 0, 1);
        due("23 back: no such image", x.back(2), BAD);
        for (int n : WILD) {
            due("23 back: wild image", x.back(n), BAD);
        }
    }

    private void promise24Count() {
        MarkOrder x = told(TABLES);
        put(x, 0, 0, 1, 2);
        x.pipes(FIRST);
        write(x, "c0");
        due("24 count: codes", x.count(0), 14);
        due("24 count: marks, a single of one too", x.count(1), 5);
        due("24 count: pairs", x.count(2), 4);
        due("24 count: outcasts", x.count(3), 1);
        due("24 count: singles", x.count(4), 3);
        due("24 count: rules", x.count(5), 1);
        due("24 count: undone", x.count(6), 3);
        due("24 count: bytes", x.count(7), 2);
        due("24 count: no such what", x.count(8), BAD);
        for (int n : WILD) {
            due("24 count: wild", x.count(n), BAD);
        }
    }
}
