/** The canonical order of marks; ../shared/DOC.md says what each call answers. */
public final class MarkOrder {
    public static final int BAD = -1, STATE = -2, FULL = -3, NONE = -9;

    private static final int MOST_BYTES = 150, MOST_CODES = 24, MOST_PAIRS = 7, MOST_PIECES = 4;
    private static final int HIGHEST_BYTE = 255, HIGHEST_CLASS = 9, HIGHEST_NUMBER = 99;
    private static final int TEXTS = 4, TEXT_ROOM = 16, PIPE_ROOM = 4, IMAGES = 2;
    private static final int MOST_UNDONE = 10, MOST_PASSES = 9;
    // A seam takes two whole texts apart at once.
    private static final int WORK_ROOM = 2 * TEXT_ROOM * MOST_PIECES;
    private static final int NO_FAULT = -1, FAULT_BASE = -10;
    private static final int PLAIN = 0, PAIR = 1, OUTCAST = 2, SINGLE = 3;
    private static final int APART = 0, JOINED = 1, SORTED = 2, BARE = 3, BACK = 4, FIRST = 5;
    private static final int BASE = 0;
    private static final long MOST_SPELLINGS = 1000000000000000000L;

    private final Reader reader = new Reader();
    private Codes codes = new Codes();
    private Codes spareCodes = new Codes();
    private final Board board = new Board();
    private final Images images = new Images();
    private final History history = new History();
    private final Rules rules = new Rules();
    private final Speller speller = new Speller();
    private final Row made = new Row(WORK_ROOM);
    private final Row madeOfOne = new Row(WORK_ROOM);
    private final Row madeOfOther = new Row(WORK_ROOM);

    public MarkOrder() {
    }

    // ---- tables

    public int type(int c) {
        if (c < 0 || c > HIGHEST_BYTE) {
            return BAD;
        }
        Row typed = reader.typed();
        return typed.push(c) ? typed.length() : FULL;
    }

    public int clear() {
        Row typed = reader.typed();
        int had = typed.length();
        typed.empty();
        return had;
    }

    public int tables() {
        int fault = reader.readInto(spareCodes);
        if (fault != NO_FAULT) {
            return FAULT_BASE - fault;
        }
        Codes old = codes;
        codes = spareCodes;
        spareCodes = old;
        reader.typed().empty();
        board.empty();
        images.drop();
        history.forget();
        return codes.size();
    }

    public int code(int c, int what) {
        if (!codes.holds(c)) {
            return BAD;
        }
        switch (what) {
            case 0:
                return codes.classOf(c);
            case 1:
                return codes.kindOf(c);
            case 2:
                return codes.firstOf(c);
            case 3:
                return codes.secondOf(c);
            case 4:
                return codes.pieceCount(c);
            case 5:
            case 6:
            case 7:
            case 8:
                return codes.piece(c, what - 5);
            default:
                return BAD;
        }
    }

    public int pair(int a, int b) {
        if (!codes.holds(a) || !codes.holds(b)) {
            return BAD;
        }
        return codes.pairOf(a, b);
    }

    // ---- texts

    public int puts(int t, int c) {
        Row text = board.text(t);
        if (text == null || !codes.holds(c)) {
            return BAD;
        }
        if (text.length() >= TEXT_ROOM) {
            return FULL;
        }
        history.remember(t, text);
        text.push(c);
        return text.length();
    }

    public int cuts(int t) {
        Row text = board.text(t);
        if (text == null) {
            return BAD;
        }
        int length = text.length();
        if (length == 0) {
            return STATE;
        }
        history.remember(t, text);
        int last = text.cell(length - 1);
        text.shorten(length - 1);
        return last;
    }

    public int appends(int t, int u) {
        Row text = board.text(t);
        Row other = board.text(u);
        if (text == null || other == null) {
            return BAD;
        }
        if (text.length() + other.length() > TEXT_ROOM) {
            return FULL;
        }
        history.remember(t, text);
        text.extend(other);
        return text.length();
    }

    public int forms(int t, int rule) {
        Row text = board.text(t);
        if (text == null || !isRule(rule)) {
            return BAD;
        }
        rules.make(rule, codes, text, made);
        if (made.length() > TEXT_ROOM) {
            return FULL;
        }
        history.remember(t, text);
        text.become(made);
        return text.length();
    }

    public int undo() {
        Row text = board.text(history.latestText());
        if (text == null) {
            return STATE;
        }
        history.giveBack(text);
        return history.known();
    }

    public int at(int t, int i) {
        Row text = board.text(t);
        return text == null ? BAD : look(text, i);
    }

    public int ruled(int t, int rule, int i) {
        Row text = board.text(t);
        if (text == null || !isRule(rule)) {
            return BAD;
        }
        rules.make(rule, codes, text, made);
        return look(made, i);
    }

    public int quick(int t, int form) {
        Row text = board.text(t);
        if (text == null) {
            return BAD;
        }
        switch (form) {
            case APART:
                return quickApart(text);
            case JOINED:
                return quickJoined(text);
            default:
                return BAD;
        }
    }

    public int same(int t, int u, int rule) {
        Row one = board.text(t);
        Row other = board.text(u);
        if (one == null || other == null || !isRule(rule)) {
            return BAD;
        }
        rules.make(rule, codes, one, madeOfOne);
        rules.make(rule, codes, other, madeOfOther);
        return madeOfOne.isLike(madeOfOther) ? 1 : 0;
    }

    public int seam(int t, int u, int rule, int what) {
        Row one = board.text(t);
        Row other = board.text(u);
        if (one == null || other == null || !isRule(rule) || what < 0 || what > 2) {
            return BAD;
        }
        rules.make(rule, codes, one, madeOfOne);
        rules.make(rule, codes, other, madeOfOther);
        rules.makeOfBoth(rule, codes, one, other, made);
        int ahead = made.alikeAhead(madeOfOne);
        // What is counted from the first on is not counted again from the last back.
        int behind = Math.min(made.alikeBehind(madeOfOther), made.length() - ahead);
        if (what == 0) {
            return ahead;
        }
        return what == 1 ? behind : made.length() - ahead - behind;
    }

    public long spellings(int t) {
        Row text = board.text(t);
        if (text == null) {
            return BAD;
        }
        rules.make(APART, codes, text, made);
        return speller.waysToSpell(made, codes);
    }

    // ---- the pipe

    public int pipes(int rule) {
        if (!isRule(rule)) {
            return BAD;
        }
        Row pipe = board.pipe();
        return pipe.push(rule) ? pipe.length() : FULL;
    }

    public int unpipe() {
        Row pipe = board.pipe();
        int had = pipe.length();
        pipe.empty();
        return had;
    }

    public int piped(int t, int i) {
        Row text = board.text(t);
        if (text == null) {
            return BAD;
        }
        made.become(text);
        rules.goThrough(board.pipe(), codes, made);
        return look(made, i);
    }

    public int fixed(int t) {
        Row text = board.text(t);
        if (text == null) {
            return BAD;
        }
        made.become(text);
        for (int passes = 0; passes <= MOST_PASSES; passes++) {
            madeOfOne.become(made);
            rules.goThrough(board.pipe(), codes, made);
            if (made.isLike(madeOfOne)) {
                return passes;
            }
        }
        return NONE;
    }

    // ---- images

    public int keep(int image) {
        return images.take(image, board) ? board.total() : BAD;
    }

    public int back(int image) {
        Board kept = images.image(image);
        if (kept == null) {
            return BAD;
        }
        if (!images.isKept(image)) {
            return STATE;
        }
        board.become(kept);
        history.forget();
        return board.total();
    }

    public int count(int what) {
        switch (what) {
            case 0:
                return codes.size();
            case 1:
                return codes.countMarks();
            case 2:
                return codes.countKind(PAIR);
            case 3:
                return codes.countKind(OUTCAST);
            case 4:
                return codes.countKind(SINGLE);
            case 5:
                return board.pipe().length();
            case 6:
                return history.known();
            case 7:
                return reader.typed().length();
            default:
                return BAD;
        }
    }

    private static boolean isRule(int rule) {
        return rule >= APART && rule <= FIRST;
    }

    private static int look(Row row, int i) {
        if (i == -1) {
            return row.length();
        }
        return row.has(i) ? row.cell(i) : BAD;
    }

    private int quickApart(Row text) {
        for (int i = 0; i < text.length(); i++) {
            if (codes.kindOf(text.cell(i)) != PLAIN) {
                return 0;
            }
        }
        return rules.isSorted(codes, text) ? 1 : 0;
    }

    private int quickJoined(Row text) {
        boolean mayJoin = false;
        for (int i = 0; i < text.length(); i++) {
            int c = text.cell(i);
            int kind = codes.kindOf(c);
            if (kind == OUTCAST || kind == SINGLE) {
                return 0;
            }
            if (codes.isSecondOfPair(codes.piece(c, 0))) {
                mayJoin = true;
            }
        }
        if (!rules.isSorted(codes, text)) {
            return 0;
        }
        return mayJoin ? 2 : 1;
    }

    /** Numbers side by side, in a room that never grows. */
    private static final class Row {
        private final int[] cells;
        private int length;

        Row(int room) {
            cells = new int[Math.max(room, 0)];
        }

        int length() {
            return length;
        }

        boolean has(int i) {
            return i >= 0 && i < length && i < cells.length;
        }

        int cell(int i) {
            return has(i) ? cells[i] : NONE;
        }

        void setCell(int i, int value) {
            if (has(i)) {
                cells[i] = value;
            }
        }

        void swapWithNext(int i) {
            if (has(i) && has(i + 1)) {
                int next = cells[i + 1];
                cells[i + 1] = cells[i];
                cells[i] = next;
            }
        }

        void empty() {
            length = 0;
        }

        boolean push(int value) {
            if (length < 0 || length >= cells.length) {
                return false;
            }
            cells[length] = value;
            length++;
            return true;
        }

        void shorten(int newLength) {
            if (newLength >= 0 && newLength < length) {
                length = newLength;
            }
        }

        void become(Row other) {
            if (other != this) {
                length = 0;
                extend(other);
            }
        }

        void extend(Row other) {
            // The other one may be this row, which grows meanwhile.
            int more = other.length;
            for (int i = 0; i < more; i++) {
                push(other.cell(i));
            }
        }

        boolean isLike(Row other) {
            return length == other.length && alikeAhead(other) == length;
        }

        int alikeAhead(Row other) {
            int most = Math.min(length, other.length);
            for (int i = 0; i < most; i++) {
                if (cell(i) != other.cell(i)) {
                    return i;
                }
            }
            return most;
        }

        int alikeBehind(Row other) {
            int most = Math.min(length, other.length);
            for (int i = 0; i < most; i++) {
                if (cell(length - 1 - i) != other.cell(other.length - 1 - i)) {
                    return i;
                }
            }
            return most;
        }
    }

    /** What the tables tell of each code. */
    private static final class Codes {
        private final int[] kinds = new int[MOST_CODES];
        private final int[] classes = new int[MOST_CODES];
        private final int[] firsts = new int[MOST_CODES];
        private final int[] seconds = new int[MOST_CODES];
        private final int[] pieceCounts = new int[MOST_CODES];
        private final int[] pieces = new int[MOST_CODES * MOST_PIECES];
        private final Row pairs = new Row(MOST_PAIRS);
        private int size;

        int size() {
            return size;
        }

        boolean holds(int c) {
            return c >= 0 && c < size && c < MOST_CODES;
        }

        boolean isFull() {
            return size >= MOST_CODES;
        }

        boolean hasRoomForPair() {
            return pairs.length() < MOST_PAIRS;
        }

        int kindOf(int c) {
            return holds(c) ? kinds[c] : NONE;
        }

        int classOf(int c) {
            return holds(c) ? classes[c] : NONE;
        }

        boolean isBase(int c) {
            return classOf(c) == BASE;
        }

        int firstOf(int c) {
            return holds(c) ? firsts[c] : NONE;
        }

        int secondOf(int c) {
            return holds(c) ? seconds[c] : NONE;
        }

        int pieceCount(int c) {
            return holds(c) ? pieceCounts[c] : 0;
        }

        int piece(int c, int i) {
            if (!holds(c) || i < 0 || i >= MOST_PIECES || i >= pieceCounts[c]) {
                return NONE;
            }
            return pieces[c * MOST_PIECES + i];
        }

        int pairOf(int a, int b) {
            for (int i = 0; i < pairs.length(); i++) {
                int c = pairs.cell(i);
                if (firstOf(c) == a && secondOf(c) == b) {
                    return c;
                }
            }
            return NONE;
        }

        boolean isSecondOfPair(int b) {
            for (int i = 0; i < pairs.length(); i++) {
                if (secondOf(pairs.cell(i)) == b) {
                    return true;
                }
            }
            return false;
        }

        boolean piecesStandAt(int c, Row row, int start) {
            for (int i = 0; i < pieceCount(c); i++) {
                if (!row.has(start + i) || row.cell(start + i) != piece(c, i)) {
                    return false;
                }
            }
            return true;
        }

        int countKind(int kind) {
            int found = 0;
            for (int c = 0; c < size; c++) {
                if (kindOf(c) == kind) {
                    found++;
                }
            }
            return found;
        }

        int countMarks() {
            int found = 0;
            for (int c = 0; c < size; c++) {
                if (!isBase(c)) {
                    found++;
                }
            }
            return found;
        }

        boolean mayBeFirst(int a) {
            int kind = kindOf(a);
            boolean fits = classOf(a) == BASE && (kind == PLAIN || kind == PAIR);
            // The second one is always plain, so it brings just one piece more.
            return fits && pieceCount(a) < MOST_PIECES;
        }

        boolean mayBeSecond(int kind, int a, int b) {
            if (kindOf(b) != PLAIN) {
                return false;
            }
            int ofClass = classOf(b);
            int lastPiece = piece(a, pieceCount(a) - 1);
            return kind != PAIR || ofClass == BASE || ofClass >= classOf(lastPiece);
        }

        void empty() {
            size = 0;
            pairs.empty();
        }

        /** What is not of two, or of one, has NONE there. */
        void add(int kind, int ofClass, int first, int second) {
            if (size < 0 || size >= MOST_CODES) {
                return;
            }
            kinds[size] = kind;
            classes[size] = ofClass;
            firsts[size] = first;
            seconds[size] = second;
            pieceCounts[size] = 0;
            if (kind == PLAIN) {
                addPiece(size);
            }
            addPiecesOf(first);
            addPiecesOf(second);
            if (kind == PAIR) {
                pairs.push(size);
            }
            size++;
        }

        private void addPiecesOf(int c) {
            for (int i = 0; i < pieceCount(c); i++) {
                addPiece(piece(c, i));
            }
        }

        private void addPiece(int p) {
            if (size < 0 || size >= MOST_CODES) {
                return;
            }
            int had = pieceCounts[size];
            if (had < 0 || had >= MOST_PIECES) {
                return;
            }
            pieces[size * MOST_PIECES + had] = p;
            pieceCounts[size] = had + 1;
        }
    }

    /** Holds the text that is typed, and reads tables of it, a token at a time. */
    private static final class Reader {
        private static final int END = 0, LETTERS = 1, NUMBER = 2, STOP = 3, WRONG = 4;
        private static final int MANY_LETTERS = 0;

        private final Row text = new Row(MOST_BYTES);
        private int place;
        private int start;
        private int token;
        private int value;
        private int kind;
        private int ofClass;
        private int first;
        private int second;

        Row typed() {
            return text;
        }

        /** The place of the fault, or NO_FAULT. */
        int readInto(Codes codes) {
            codes.empty();
            place = 0;
            // One round more than there may be codes: it meets the end, or the code too many.
            for (int round = 0; round <= MOST_CODES; round++) {
                step();
                if (token == END) {
                    return NO_FAULT;
                }
                if (!readCode(codes)) {
                    return start;
                }
                codes.add(kind, ofClass, first, second);
            }
            return start;
        }

        private boolean readCode(Codes codes) {
            if (token != LETTERS || codes.isFull()) {
                return false;
            }
            boolean stands;
            switch (value) {
                case 'c':
                    stands = readPlain();
                    break;
                case 'p':
                    stands = codes.hasRoomForPair() && readTwo(codes, PAIR);
                    break;
                case 'x':
                    stands = readTwo(codes, OUTCAST);
                    break;
                case 's':
                    stands = readSingle(codes);
                    break;
                default:
                    stands = false;
                    break;
            }
            // The place of a fault is where the latest token starts, so none is read behind one.
            if (!stands) {
                return false;
            }
            step();
            return token == STOP;
        }

        private boolean readPlain() {
            step();
            kind = PLAIN;
            ofClass = value;
            first = NONE;
            second = NONE;
            return token == NUMBER && value <= HIGHEST_CLASS;
        }

        private boolean readSingle(Codes codes) {
            step();
            kind = SINGLE;
            ofClass = codes.classOf(value);
            first = value;
            second = NONE;
            return token == NUMBER && codes.holds(value);
        }

        private boolean readTwo(Codes codes, int kindOfTwo) {
            step();
            if (token != NUMBER || !codes.mayBeFirst(value)) {
                return false;
            }
            kind = kindOfTwo;
            ofClass = BASE;
            first = value;
            step();
            second = value;
            if (token != NUMBER || !codes.mayBeSecond(kind, first, second)) {
                return false;
            }
            return kind != PAIR || codes.pairOf(first, second) == NONE;
        }

        private void step() {
            while (place < text.length() && text.cell(place) == ' ') {
                place++;
            }
            start = place;
            if (place >= text.length()) {
                token = END;
            } else if (isLetter(text.cell(place))) {
                takeLetters();
            } else if (isDigit(text.cell(place))) {
                takeNumber();
            } else {
                token = text.cell(place) == ';' ? STOP : WRONG;
                place++;
            }
        }

        private void takeLetters() {
            token = LETTERS;
            value = text.cell(place);
            while (place < text.length() && isLetter(text.cell(place))) {
                place++;
            }
            if (place - start > 1) {
                value = MANY_LETTERS;
            }
        }

        private void takeNumber() {
            value = 0;
            while (place < text.length() && isDigit(text.cell(place))) {
                // Held just above the highest, so that a long one does not wrap around.
                value = Math.min(value * 10 + text.cell(place) - '0', HIGHEST_NUMBER + 1);
                place++;
            }
            boolean zeroAhead = place - start > 1 && text.cell(start) == '0';
            token = zeroAhead || value > HIGHEST_NUMBER ? WRONG : NUMBER;
        }

        private static boolean isLetter(int c) {
            return c >= 'a' && c <= 'z';
        }

        private static boolean isDigit(int c) {
            return c >= '0' && c <= '9';
        }
    }

    /** The rules, each of which makes a row of another one. */
    private static final class Rules {
        private final Row both = new Row(2 * TEXT_ROOM);
        private final Row between = new Row(WORK_ROOM);

        /** The two rows are never the same one. */
        void make(int rule, Codes codes, Row from, Row to) {
            to.empty();
            switch (rule) {
                case APART:
                    takeApart(codes, from, to);
                    break;
                case JOINED:
                    takeApart(codes, from, to);
                    join(codes, to);
                    break;
                case SORTED:
                    to.extend(from);
                    sort(codes, to);
                    break;
                case BARE:
                    takeApart(codes, from, to);
                    dropMarks(codes, to);
                    break;
                case BACK:
                    turn(from, to);
                    break;
                case FIRST:
                    takeFirst(codes, from, to);
                    break;
                default:
                    break;
            }
        }

        void makeOfBoth(int rule, Codes codes, Row one, Row other, Row to) {
            both.become(one);
            both.extend(other);
            make(rule, codes, both, to);
        }

        void goThrough(Row pipe, Codes codes, Row row) {
            for (int i = 0; i < pipe.length(); i++) {
                make(pipe.cell(i), codes, row, between);
                row.become(between);
            }
        }

        boolean isSorted(Codes codes, Row row) {
            for (int i = 1; i < row.length(); i++) {
                int c = row.cell(i);
                if (!codes.isBase(c) && codes.classOf(row.cell(i - 1)) > codes.classOf(c)) {
                    return false;
                }
            }
            return true;
        }

        private void takeApart(Codes codes, Row from, Row to) {
            for (int i = 0; i < from.length(); i++) {
                int c = from.cell(i);
                for (int p = 0; p < codes.pieceCount(c); p++) {
                    to.push(codes.piece(c, p));
                }
            }
            sort(codes, to);
        }

        private void sort(Codes codes, Row row) {
            for (int i = 1; i < row.length(); i++) {
                int ofClass = codes.classOf(row.cell(i));
                if (ofClass == BASE) {
                    continue;
                }
                int to = i;
                // A base ahead ends this too: its class is never above that of a mark.
                while (to > 0 && codes.classOf(row.cell(to - 1)) > ofClass) {
                    to--;
                    row.swapWithNext(to);
                }
            }
        }

        private void join(Codes codes, Row row) {
            int length = row.length();
            int latest = NONE;
            int highest = NONE;
            int stayed = 0;
            for (int i = 0; i < length; i++) {
                int c = row.cell(i);
                int ofClass = codes.classOf(c);
                boolean blocked = latest == NONE || highest >= ofClass;
                int joined = blocked ? NONE : codes.pairOf(row.cell(latest), c);
                if (joined != NONE) {
                    row.setCell(latest, joined);
                    continue;
                }
                row.setCell(stayed, c);
                if (ofClass == BASE) {
                    latest = stayed;
                    highest = NONE;
                } else {
                    highest = Math.max(highest, ofClass);
                }
                stayed++;
            }
            row.shorten(stayed);
        }

        private void dropMarks(Codes codes, Row row) {
            int length = row.length();
            int stayed = 0;
            for (int i = 0; i < length; i++) {
                int c = row.cell(i);
                if (codes.isBase(c)) {
                    row.setCell(stayed, c);
                    stayed++;
                }
            }
            row.shorten(stayed);
        }

        private void turn(Row from, Row to) {
            for (int i = from.length() - 1; i >= 0; i--) {
                to.push(from.cell(i));
            }
        }

        private void takeFirst(Codes codes, Row from, Row to) {
            int bases = 0;
            for (int i = 0; i < from.length(); i++) {
                int c = from.cell(i);
                if (codes.isBase(c)) {
                    bases++;
                }
                if (bases > 1) {
                    return;
                }
                to.push(c);
            }
        }
    }

    /** Counts the rows of codes whose pieces are a given row. */
    private static final class Speller {
        private final long[] ways = new long[WORK_ROOM + 1];

        long waysToSpell(Row apart, Codes codes) {
            int length = Math.min(apart.length(), WORK_ROOM);
            ways[0] = 1L;
            for (int end = 1; end <= length; end++) {
                ways[end] = waysUpTo(end, apart, codes);
            }
            return length < 0 ? 0L : ways[length];
        }

        private long waysUpTo(int end, Row apart, Codes codes) {
            long sum = 0L;
            for (int c = 0; c < codes.size(); c++) {
                int start = end - codes.pieceCount(c);
                if (start >= 0 && start < ways.length && codes.piecesStandAt(c, apart, start)) {
                    // Held at the most at each step: two such numbers still fit into a long.
                    sum = Math.min(sum + ways[start], MOST_SPELLINGS);
                }
            }
            return sum;
        }
    }

    /** All that an image keeps: the texts and the pipe. */
    private static final class Board {
        private final Row[] texts = new Row[TEXTS];
        private final Row pipe = new Row(PIPE_ROOM);

        Board() {
            for (int t = 0; t < TEXTS; t++) {
                texts[t] = new Row(TEXT_ROOM);
            }
        }

        /** Null, if there is no such text. */
        Row text(int t) {
            return t >= 0 && t < TEXTS ? texts[t] : null;
        }

        Row pipe() {
            return pipe;
        }

        int total() {
            int sum = 0;
            for (int t = 0; t < TEXTS; t++) {
                sum += texts[t].length();
            }
            return sum;
        }

        void empty() {
            for (int t = 0; t < TEXTS; t++) {
                texts[t].empty();
            }
            pipe.empty();
        }

        void become(Board other) {
            for (int t = 0; t < TEXTS; t++) {
                texts[t].become(other.texts[t]);
            }
            pipe.become(other.pipe);
        }
    }

    private static final class Images {
        private final Board[] boards = new Board[IMAGES];
        private final boolean[] kept = new boolean[IMAGES];

        Images() {
            for (int i = 0; i < IMAGES; i++) {
                boards[i] = new Board();
            }
        }

        /** Null, if there is no such image; it may be one that was not kept yet. */
        Board image(int i) {
            return i >= 0 && i < IMAGES ? boards[i] : null;
        }

        boolean isKept(int i) {
            return i >= 0 && i < IMAGES && kept[i];
        }

        boolean take(int i, Board board) {
            if (i < 0 || i >= IMAGES) {
                return false;
            }
            boards[i].become(board);
            kept[i] = true;
            return true;
        }

        void drop() {
            for (int i = 0; i < IMAGES; i++) {
                kept[i] = false;
            }
        }
    }

    /** The texts as they were ahead of the latest changes; the oldest is written over. */
    private static final class History {
        private final Row[] olds = new Row[MOST_UNDONE];
        private final int[] owners = new int[MOST_UNDONE];
        private int known;
        private int latest;

        History() {
            for (int i = 0; i < MOST_UNDONE; i++) {
                olds[i] = new Row(TEXT_ROOM);
            }
        }

        int known() {
            return known;
        }

        void forget() {
            known = 0;
        }

        void remember(int t, Row text) {
            int next = latest >= 0 && latest + 1 < MOST_UNDONE ? latest + 1 : 0;
            owners[next] = t;
            olds[next].become(text);
            latest = next;
            known = Math.min(known + 1, MOST_UNDONE);
        }

        /** NONE, if nothing is known. */
        int latestText() {
            return known > 0 && latest >= 0 && latest < MOST_UNDONE ? owners[latest] : NONE;
        }

        void giveBack(Row text) {
            if (known <= 0 || latest < 0 || latest >= MOST_UNDONE) {
                return;
            }
            text.become(olds[latest]);
            latest = latest > 0 ? latest - 1 : MOST_UNDONE - 1;
            known--;
        }
    }
}
