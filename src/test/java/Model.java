import java.math.BigInteger;
import java.util.ArrayDeque;
import java.util.ArrayList;
import java.util.Collections;
import java.util.Comparator;
import java.util.Deque;
import java.util.List;
import java.util.regex.Matcher;
import java.util.regex.Pattern;

/** The document written down a second time, in other ways than the class does it. */
final class Model {
    private static final int BAD = -1, STATE = -2, FULL = -3, NONE = -9;
    private static final Pattern TOKEN = Pattern.compile("[a-z]+|[0-9]+|;");

    private record Code(char letter, int rank, int first, int second, List<Integer> pieces) {
    }

    private record Token(String word, int place) {
    }

    private record Change(int text, List<Integer> before) {
    }

    private record Image(List<List<Integer>> texts, List<Integer> pipe) {
    }

    private final StringBuilder typed = new StringBuilder();
    private List<Code> codes = new ArrayList<>();
    private List<List<Integer>> texts = emptyTexts();
    private List<Integer> pipe = new ArrayList<>();
    private final Deque<Change> changes = new ArrayDeque<>();
    private final Image[] images = new Image[2];

    private static List<List<Integer>> emptyTexts() {
        List<List<Integer>> all = new ArrayList<>();
        for (int t = 0; t < 4; t++) {
            all.add(new ArrayList<>());
        }
        return all;
    }

    private static boolean in(int n, int low, int high) {
        return low <= n && n <= high;
    }

    private boolean isText(int t) {
        return in(t, 0, 3);
    }

    private boolean isCode(int c) {
        return in(c, 0, codes.size() - 1);
    }

    private boolean isRule(int rule) {
        return in(rule, 0, 5);
    }

    int type(int c) {
        if (!in(c, 0, 255)) {
            return BAD;
        }
        if (typed.length() == 150) {
            return FULL;
        }
        typed.append((char) c);
        return typed.length();
    }

    int clear() {
        int had = typed.length();
        typed.setLength(0);
        return had;
    }

    int tables() {
        List<Code> told = new ArrayList<>();
        int fault = parse(typed.toString(), told);
        if (fault >= 0) {
            return -10 - fault;
        }
        typed.setLength(0);
        codes = told;
        texts = emptyTexts();
        pipe = new ArrayList<>();
        changes.clear();
        images[0] = null;
        images[1] = null;
        return codes.size();
    }

    /** All tokens first; a byte that begins none is a token of its own that stands nowhere. */
    private static List<Token> tokens(String text) {
        List<Token> all = new ArrayList<>();
        Matcher matcher = TOKEN.matcher(text);
        int place = 0;
        while (place < text.length()) {
            if (text.charAt(place) == ' ') {
                place++;
            } else if (matcher.region(place, text.length()).lookingAt()) {
                all.add(new Token(matcher.group(), place));
                place = matcher.end();
            } else {
                all.add(new Token("?", place));
                place++;
            }
        }
        all.add(new Token("", text.length()));
        return all;
    }

    private static int parse(String text, List<Code> told) {
        List<Token> all = tokens(text);
        int at = 0;
        while (!all.get(at).word().isEmpty()) {
            String head = all.get(at).word();
            boolean begins = List.of("c", "p", "x", "s").contains(head);
            long pairs = told.stream().filter(code -> code.letter() == 'p').count();
            if (!begins || told.size() == 24 || head.equals("p") && pairs == 7) {
                return all.get(at).place();
            }
            int parts = head.equals("p") || head.equals("x") ? 2 : 1;
            int[] numbers = {NONE, NONE};
            for (int i = 0; i < parts; i++) {
                at++;
                if (!all.get(at).word().matches("0|[1-9][0-9]?")) {
                    return all.get(at).place();
                }
                numbers[i] = Integer.parseInt(all.get(at).word());
                if (!mayStand(head.charAt(0), i, numbers, told)) {
                    return all.get(at).place();
                }
            }
            at++;
            if (!all.get(at).word().equals(";")) {
                return all.get(at).place();
            }
            at++;
            told.add(codeOf(head.charAt(0), numbers, told));
        }
        return -1;
    }

    private static boolean mayStand(char head, int part, int[] numbers, List<Code> told) {
        int n = numbers[part];
        if (head == 'c') {
            return n <= 9;
        }
        if (n >= told.size()) {
            return false;
        }
        if (head == 's') {
            return true;
        }
        Code code = told.get(n);
        if (part == 0) {
            return code.rank() == 0 && (code.letter() == 'c' || code.letter() == 'p') && code.pieces().size() + 1 <= 4;
        }
        if (code.letter() != 'c') {
            return false;
        }
        if (head == 'x') {
            return true;
        }
        List<Integer> pieces = told.get(numbers[0]).pieces();
        int lastRank = told.get(pieces.get(pieces.size() - 1)).rank();
        boolean twice = told.stream().anyMatch(o -> o.letter() == 'p' && o.first() == numbers[0] && o.second() == n);
        return (code.rank() == 0 || code.rank() >= lastRank) && !twice;
    }

    private static Code codeOf(char head, int[] numbers, List<Code> told) {
        List<Integer> pieces = new ArrayList<>();
        if (head == 'c') {
            pieces.add(told.size());
            return new Code(head, numbers[0], NONE, NONE, pieces);
        }
        pieces.addAll(told.get(numbers[0]).pieces());
        if (head == 's') {
            return new Code(head, told.get(numbers[0]).rank(), numbers[0], NONE, pieces);
        }
        pieces.addAll(told.get(numbers[1]).pieces());
        return new Code(head, 0, numbers[0], numbers[1], pieces);
    }

    int code(int c, int what) {
        if (!isCode(c) || !in(what, 0, 8)) {
            return BAD;
        }
        Code code = codes.get(c);
        if (what >= 5) {
            return what - 5 < code.pieces().size() ? code.pieces().get(what - 5) : NONE;
        }
        int[] answers = {code.rank(), "cpxs".indexOf(code.letter()), code.first(), code.second(), code.pieces().size()};
        return answers[what];
    }

    int pair(int a, int b) {
        return isCode(a) && isCode(b) ? pairOf(a, b) : BAD;
    }

    private int pairOf(int a, int b) {
        for (Code code : codes) {
            if (code.letter() == 'p' && code.first() == a && code.second() == b) {
                return codes.indexOf(code);
            }
        }
        return NONE;
    }

    private void change(int t, List<Integer> after) {
        changes.push(new Change(t, texts.get(t)));
        if (changes.size() > 10) {
            changes.removeLast();
        }
        texts.set(t, after);
    }

    int puts(int t, int c) {
        if (!isText(t) || !isCode(c)) {
            return BAD;
        }
        return grow(t, List.of(c));
    }

    private int grow(int t, List<Integer> more) {
        List<Integer> after = new ArrayList<>(texts.get(t));
        after.addAll(more);
        if (after.size() > 16) {
            return FULL;
        }
        change(t, after);
        return after.size();
    }

    int cuts(int t) {
        if (!isText(t)) {
            return BAD;
        }
        List<Integer> text = texts.get(t);
        if (text.isEmpty()) {
            return STATE;
        }
        change(t, new ArrayList<>(text.subList(0, text.size() - 1)));
        return text.get(text.size() - 1);
    }

    int appends(int t, int u) {
        return isText(t) && isText(u) ? grow(t, texts.get(u)) : BAD;
    }

    int forms(int t, int rule) {
        if (!isText(t) || !isRule(rule)) {
            return BAD;
        }
        List<Integer> after = make(rule, texts.get(t));
        if (after.size() > 16) {
            return FULL;
        }
        change(t, after);
        return after.size();
    }

    int undo() {
        if (changes.isEmpty()) {
            return STATE;
        }
        Change latest = changes.pop();
        texts.set(latest.text(), latest.before());
        return changes.size();
    }

    private static int look(List<Integer> row, int i) {
        return i == -1 ? row.size() : in(i, 0, row.size() - 1) ? row.get(i) : BAD;
    }

    int at(int t, int i) {
        return isText(t) ? look(texts.get(t), i) : BAD;
    }

    int ruled(int t, int rule, int i) {
        return isText(t) && isRule(rule) ? look(make(rule, texts.get(t)), i) : BAD;
    }

    private int rank(int c) {
        return codes.get(c).rank();
    }

    private List<Integer> make(int rule, List<Integer> row) {
        switch (rule) {
            case 0:
                return sorted(pieces(row));
            case 1:
                return joined(sorted(pieces(row)));
            case 2:
                return sorted(row);
            case 3:
                List<Integer> bare = new ArrayList<>(sorted(pieces(row)));
                bare.removeIf(c -> rank(c) > 0);
                return bare;
            case 4:
                List<Integer> turned = new ArrayList<>(row);
                Collections.reverse(turned);
                return turned;
            default:
                List<Integer> bases = row.stream().filter(c -> rank(c) == 0).toList();
                if (bases.size() < 2) {
                    return row;
                }
                int firstBase = row.indexOf(bases.get(0));
                int behind = row.subList(firstBase + 1, row.size()).indexOf(bases.get(1));
                return row.subList(0, firstBase + 1 + behind);
        }
    }

    private List<Integer> pieces(List<Integer> row) {
        List<Integer> all = new ArrayList<>();
        row.forEach(c -> all.addAll(codes.get(c).pieces()));
        return all;
    }

    private List<Integer> sorted(List<Integer> row) {
        List<Integer> all = new ArrayList<>();
        List<Integer> run = new ArrayList<>();
        for (int c : row) {
            if (rank(c) > 0) {
                run.add(c);
                continue;
            }
            run.sort(Comparator.comparingInt(this::rank));
            all.addAll(run);
            run.clear();
            all.add(c);
        }
        run.sort(Comparator.comparingInt(this::rank));
        all.addAll(run);
        return all;
    }

    /** As the document says it, on a list from which the joined ones are taken out. */
    private List<Integer> joined(List<Integer> row) {
        List<Integer> all = new ArrayList<>(row);
        int latest = 0;
        while (latest < all.size() && rank(all.get(latest)) > 0) {
            latest++;
        }
        int next = latest + 1;
        while (next < all.size()) {
            int c = all.get(next);
            boolean blocked = false;
            for (int stayed : all.subList(latest + 1, next)) {
                blocked |= rank(stayed) == 0 || rank(stayed) >= rank(c);
            }
            int pair = pairOf(all.get(latest), c);
            if (pair != NONE && !blocked) {
                all.set(latest, pair);
                all.remove(next);
                continue;
            }
            if (rank(c) == 0) {
                latest = next;
            }
            next++;
        }
        return all;
    }

    int quick(int t, int form) {
        if (!isText(t) || !in(form, 0, 1)) {
            return BAD;
        }
        List<Integer> text = texts.get(t);
        String wrongLetters = form == 0 ? "pxs" : "xs";
        boolean wrong = text.stream().anyMatch(c -> wrongLetters.indexOf(codes.get(c).letter()) >= 0);
        if (wrong || !sorted(text).equals(text)) {
            return 0;
        }
        boolean second = text.stream().map(c -> codes.get(c).pieces().get(0))
            .anyMatch(p -> codes.stream().anyMatch(o -> o.letter() == 'p' && o.second() == p));
        return form == 1 && second ? 2 : 1;
    }

    int same(int t, int u, int rule) {
        if (!isText(t) || !isText(u) || !isRule(rule)) {
            return BAD;
        }
        return make(rule, texts.get(t)).equals(make(rule, texts.get(u))) ? 1 : 0;
    }

    int seam(int t, int u, int rule, int what) {
        if (!isText(t) || !isText(u) || !isRule(rule) || !in(what, 0, 2)) {
            return BAD;
        }
        List<Integer> both = new ArrayList<>(texts.get(t));
        both.addAll(texts.get(u));
        Deque<Integer> made = new ArrayDeque<>(make(rule, both));
        Deque<Integer> one = new ArrayDeque<>(make(rule, texts.get(t)));
        Deque<Integer> other = new ArrayDeque<>(make(rule, texts.get(u)));
        int[] answers = {0, 0, 0};
        while (!made.isEmpty() && !one.isEmpty() && made.peekFirst().equals(one.peekFirst())) {
            made.removeFirst();
            one.removeFirst();
            answers[0]++;
        }
        while (!made.isEmpty() && !other.isEmpty() && made.peekLast().equals(other.peekLast())) {
            made.removeLast();
            other.removeLast();
            answers[1]++;
        }
        answers[2] = made.size();
        return answers[what];
    }

    long spellings(int t) {
        if (!isText(t)) {
            return BAD;
        }
        List<Integer> row = make(0, texts.get(t));
        BigInteger[] waysFrom = new BigInteger[row.size() + 1];
        waysFrom[row.size()] = BigInteger.ONE;
        for (int from = row.size() - 1; from >= 0; from--) {
            waysFrom[from] = BigInteger.ZERO;
            for (Code code : codes) {
                int to = from + code.pieces().size();
                if (to <= row.size() && row.subList(from, to).equals(code.pieces())) {
                    waysFrom[from] = waysFrom[from].add(waysFrom[to]);
                }
            }
        }
        return waysFrom[0].min(BigInteger.TEN.pow(18)).longValueExact();
    }

    int pipes(int rule) {
        if (!isRule(rule)) {
            return BAD;
        }
        if (pipe.size() == 4) {
            return FULL;
        }
        pipe.add(rule);
        return pipe.size();
    }

    int unpipe() {
        int had = pipe.size();
        pipe.clear();
        return had;
    }

    private List<Integer> through(List<Integer> row) {
        List<Integer> made = row;
        for (int rule : pipe) {
            made = make(rule, made);
        }
        return made;
    }

    int piped(int t, int i) {
        return isText(t) ? look(through(texts.get(t)), i) : BAD;
    }

    int fixed(int t) {
        if (!isText(t)) {
            return BAD;
        }
        List<List<Integer>> states = new ArrayList<>();
        states.add(texts.get(t));
        for (int i = 0; i < 10; i++) {
            states.add(through(states.get(i)));
        }
        for (int i = 0; i < 10; i++) {
            if (states.get(i).equals(states.get(i + 1))) {
                return i;
            }
        }
        return NONE;
    }

    private int total() {
        return texts.stream().mapToInt(List::size).sum();
    }

    private static List<List<Integer>> copy(List<List<Integer>> rows) {
        List<List<Integer>> all = new ArrayList<>();
        rows.forEach(row -> all.add(new ArrayList<>(row)));
        return all;
    }

    int keep(int image) {
        if (!in(image, 0, 1)) {
            return BAD;
        }
        images[image] = new Image(copy(texts), new ArrayList<>(pipe));
        return total();
    }

    int back(int image) {
        if (!in(image, 0, 1)) {
            return BAD;
        }
        if (images[image] == null) {
            return STATE;
        }
        texts = copy(images[image].texts());
        pipe = new ArrayList<>(images[image].pipe());
        changes.clear();
        return total();
    }

    int count(int what) {
        if (!in(what, 0, 7)) {
            return BAD;
        }
        int[] answers = {codes.size(), (int) codes.stream().filter(code -> code.rank() > 0).count(),
            letters('p'), letters('x'), letters('s'), pipe.size(), changes.size(), typed.length()};
        return answers[what];
    }

    private int letters(char letter) {
        return (int) codes.stream().filter(code -> code.letter() == letter).count();
    }
}
