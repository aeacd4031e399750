import java.util.ArrayList;
import java.util.List;
import java.util.function.Consumer;

/**
 * All that can be seen of an object. It is made anew for each part: looking at what can be undone
 * or at an image changes it, and an object has only 512 calls.
 */
final class Looks {
    private static final int TEXTS = 4, MOST_UNDONE = 10, CODES_A_PART = 8, MOST_CODES = 24;

    private final Consumer<MarkOrder> before;
    private final List<String> lines = new ArrayList<>();

    private Looks(Consumer<MarkOrder> before) {
        this.before = before;
    }

    static List<String> all(Consumer<MarkOrder> before) {
        Looks looks = new Looks(before);
        looks.allButImages();
        looks.image(0);
        looks.image(1);
        return looks.lines;
    }

    static List<String> allButImages(Consumer<MarkOrder> before) {
        Looks looks = new Looks(before);
        looks.allButImages();
        return looks.lines;
    }

    private void allButImages() {
        codesOf(fresh());
        for (int from = 0; from < MOST_CODES; from += CODES_A_PART) {
            pairs(from);
        }
        made(fresh());
        for (int times = 0; times <= MOST_UNDONE + 1; times++) {
            undone(times);
        }
        pipe(fresh());
        typed();
    }

    private MarkOrder fresh() {
        MarkOrder x = new MarkOrder();
        before.accept(x);
        return x;
    }

    private void line(String name, List<? extends Number> answers) {
        lines.add(name + " " + answers);
    }

    private void counts(MarkOrder x) {
        List<Integer> answers = new ArrayList<>();
        for (int what = 0; what <= 7; what++) {
            answers.add(x.count(what));
        }
        line("counts", answers);
    }

    private void codesOf(MarkOrder x) {
        counts(x);
        for (int c = 0; c < x.count(0); c++) {
            List<Integer> answers = new ArrayList<>();
            for (int what = 0; what <= 8; what++) {
                answers.add(x.code(c, what));
            }
            line("code " + c, answers);
        }
    }

    private void pairs(int from) {
        MarkOrder x = fresh();
        int codes = x.count(0);
        for (int a = from; a < Math.min(codes, from + CODES_A_PART); a++) {
            List<Integer> answers = new ArrayList<>();
            for (int b = 0; b < codes; b++) {
                answers.add(x.pair(a, b));
            }
            line("pairs of " + a, answers);
        }
    }

    private void texts(String name, MarkOrder x) {
        for (int t = 0; t < TEXTS; t++) {
            List<Integer> answers = new ArrayList<>();
            for (int i = -1; i <= x.at(t, -1); i++) {
                answers.add(x.at(t, i));
            }
            line(name + ": text " + t, answers);
        }
    }

    private void made(MarkOrder x) {
        for (int t = 0; t < TEXTS; t++) {
            List<Long> answers = new ArrayList<>();
            answers.add((long) x.piped(t, -1));
            answers.add((long) x.fixed(t));
            answers.add((long) x.quick(t, 1));
            answers.add(x.spellings(t));
            line("made of text " + t, answers);
        }
    }

    private void undone(int times) {
        MarkOrder x = fresh();
        List<Integer> answers = new ArrayList<>();
        for (int i = 0; i < times; i++) {
            answers.add(x.undo());
        }
        line("undone " + times, answers);
        texts("undone " + times, x);
    }

    /** The rules can't be asked for; what they make of a row of many codes tells them. */
    private void pipe(MarkOrder x) {
        for (int i = 0; i < 16; i++) {
            x.cuts(0);
        }
        for (int c = x.count(0) - 1; c >= 0; c--) {
            x.puts(0, c);
        }
        List<Integer> answers = new ArrayList<>();
        answers.add(x.count(5));
        int many = x.piped(0, -1);
        for (int i = 0; i < many; i++) {
            answers.add(x.piped(0, i));
        }
        line("the pipe", answers);
    }

    private void image(int image) {
        MarkOrder x = fresh();
        line("back " + image, List.of(x.back(image), x.count(6)));
        texts("image " + image, x);
        pipe(x);
    }

    private void typed() {
        MarkOrder x = fresh();
        line("tables", List.of(x.tables()));
        codesOf(x);
    }
}
