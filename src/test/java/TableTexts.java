import java.util.ArrayList;
import java.util.List;

/** Makes texts of tables: most of them can be read, the others have a fault somewhere. */
final class TableTexts {
    private static final String SIGNS = "cpxs;  0123456789azA@/:`{\u0000\u00ff";

    private final Draws draws;
    private final List<Integer> plains = new ArrayList<>();
    private final List<Integer> firsts = new ArrayList<>();
    private int told = 0;

    TableTexts(Draws draws) {
        this.draws = draws;
    }

    String next() {
        StringBuilder text = new StringBuilder();
        int codes = draws.rarely(10) ? 24 + draws.below(3) : 3 + draws.below(20);
        int highest = 1 + draws.below(9);
        boolean careful = draws.below(4) != 0;
        for (int i = 0; i < codes; i++) {
            String code = careful ? carefulCode(i, highest) : wildCode(highest);
            if (text.length() + code.length() > 150) {
                break;
            }
            text.append(code);
            told++;
        }
        if (draws.rarely(5)) {
            spoil(text);
        }
        return text.toString();
    }

    private String blank() {
        return draws.rarely(15) ? " " : "";
    }

    private String carefulCode(int i, int highest) {
        int kind = i < 3 ? 0 : draws.below(8);
        if (kind < 3 || firsts.isEmpty()) {
            int rank = i == 0 || draws.rarely(3) ? 0 : draws.below(highest + 1);
            plains.add(told);
            if (rank == 0) {
                firsts.add(told);
            }
            return "c" + blank() + rank + blank() + ";";
        }
        if (kind == 7) {
            return "s" + blank() + draws.below(told) + ";" + blank();
        }
        // Lately told ones are taken more often, so that long chains of pairs come up.
        int near = Math.max(0, firsts.size() - 1 - draws.below(3));
        int first = firsts.get(draws.rarely(2) ? near : draws.below(firsts.size()));
        int second = plains.get(draws.below(plains.size()));
        if (kind != 6) {
            firsts.add(told);
        }
        return (kind == 6 ? "x" : "p") + blank() + first + " " + second + blank() + ";";
    }

    private String wildCode(int highest) {
        int kind = draws.below(told < 3 ? 1 : 4);
        if (kind == 0) {
            return "c" + draws.below(highest + 1) + ";";
        }
        String one = String.valueOf(draws.below(told));
        return kind == 1 ? "s" + one + ";" : (kind == 2 ? "p" : "x") + one + " " + draws.below(told) + ";";
    }

    private void spoil(StringBuilder text) {
        if (text.length() == 0) {
            return;
        }
        int place = draws.below(text.length());
        int way = draws.below(4);
        char sign = SIGNS.charAt(draws.below(SIGNS.length()));
        if (way == 0) {
            text.deleteCharAt(place);
        } else if (way == 1) {
            text.setCharAt(place, sign);
        } else if (way == 2) {
            text.insert(place, sign);
        } else {
            text.setLength(place);
        }
    }
}
