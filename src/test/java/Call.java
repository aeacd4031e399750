/** One call of the face, with its numbers; those that it has no use for are left out. */
record Call(int kind, int a, int b, int c, int d) {
    static final int KINDS = 23;

    long on(MarkOrder x) {
        return kind < 11 ? changeOrTable(x) : lookOrPipe(x);
    }

    private long changeOrTable(MarkOrder x) {
        return switch (kind) {
            case 0 -> x.type(a);
            case 1 -> x.clear();
            case 2 -> x.tables();
            case 3 -> x.code(a, b);
            case 4 -> x.pair(a, b);
            case 5 -> x.puts(a, b);
            case 6 -> x.cuts(a);
            case 7 -> x.appends(a, b);
            case 8 -> x.forms(a, b);
            case 9 -> x.undo();
            default -> x.keep(a);
        };
    }

    private long lookOrPipe(MarkOrder x) {
        return switch (kind) {
            case 11 -> x.back(a);
            case 12 -> x.at(a, b);
            case 13 -> x.ruled(a, b, c);
            case 14 -> x.quick(a, b);
            case 15 -> x.same(a, b, c);
            case 16 -> x.seam(a, b, c, d);
            case 17 -> x.spellings(a);
            case 18 -> x.pipes(a);
            case 19 -> x.unpipe();
            case 20 -> x.piped(a, b);
            case 21 -> x.fixed(a);
            default -> x.count(a);
        };
    }
}
