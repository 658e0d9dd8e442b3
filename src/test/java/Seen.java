/** All that can be seen of an object, in one text. */
final class Seen {
    private Seen() {
    }

    static String of(WorthKeeping x) {
        StringBuilder all = new StringBuilder();
        for (int what = 0; what < 7; what++) {
            tell(all, "told", what, x.told(what));
        }
        for (int s = 0; s < 16; s++) {
            tell(all, "held", s, x.held(s));
        }
        tell(all, "answer", 0, x.answer());
        for (int what = 0; what < 5; what++) {
            tell(all, "ran", what, x.ran(what));
        }
        for (int r = 0; r < x.told(0); r++) {
            routine(all, x, r);
        }
        for (int i = 0; i < x.told(1); i++) {
            keptOne(all, x, i);
        }
        tell(all, "cost", 0, x.cost(0, 0));
        tell(all, "cost", -1, x.cost(-1, 3));
        tell(all, "best", 2, x.best(2));
        return all.toString();
    }

    private static void tell(StringBuilder all, String name, int which, int answer) {
        all.append(name).append(' ').append(which).append(": ").append(answer).append("; ");
    }

    private static void routine(StringBuilder all, WorthKeeping x, int r) {
        tell(all, "acting", r, x.acting(r));
        tell(all, "reads", r, x.reads(r));
        for (int i = 0; i < 40 && x.codeAt(r, i) != WorthKeeping.NONE; i++) {
            tell(all, "code of " + r, i, x.codeAt(r, i));
        }
    }

    private static void keptOne(StringBuilder all, WorthKeeping x, int i) {
        for (int what = 0; what < 36; what++) {
            tell(all, "kept " + i, what, x.kept(i, what));
        }
    }
}
