/** A test for each sentence of the document that names a boundary case, told by its words. */
final class Sentences {
    private final Checks checks = new Checks();
    private String words = "";
    private int count = 0;

    void holds(String itsWords, Runnable test) {
        words = itsWords;
        count++;
        int before = checks.asked();
        test.run();
        checks.isTrue("a test that asks for nothing: " + words, checks.asked() > before);
    }

    void due(String call, long want, long got) {
        checks.due("[" + words + "] " + call, want, got);
    }

    void isTrue(String what, boolean is) {
        checks.isTrue("[" + words + "] " + what, is);
    }

    /** A run of routine 0, with how it ends and its answer. */
    void runDue(int refusal, int answer, WorthKeeping x, int... numbers) {
        String call = "run(0, " + numbers[0] + ", " + numbers[1] + ", " + numbers[2] + ")";
        due(call, refusal, x.run(0, numbers[0], numbers[1], numbers[2]));
        due(call + ": answer()", answer, x.answer());
    }

    /** The codes of routine 0, which is the only one. */
    void codesDue(int refusal, int answer, int... codes) {
        runDue(refusal, answer, Checks.made(codes), 0, 0, 0);
    }

    /** Of the latest run: steps, real ones, hits, misses, most calls within one another. */
    void ranDue(WorthKeeping x, int... want) {
        for (int what = 0; what < want.length; what++) {
            due("ran(" + what + ")", want[what], x.ran(what));
        }
    }

    /** Of a kept one: what 0 to 8 tell. */
    void keptDue(WorthKeeping x, int i, int... want) {
        for (int what = 0; what < want.length; what++) {
            due("kept(" + i + ", " + what + ")", want[what], x.kept(i, what));
        }
    }

    /** The kept ones' number 0, in their order: no more, no fewer. */
    void numbersDue(WorthKeeping x, int... numbers) {
        due("told(1)", numbers.length, x.told(1));
        for (int i = 0; i < numbers.length; i++) {
            due("kept(" + i + ", 10)", numbers[i], x.kept(i, 10));
        }
    }

    /** The call is refused so, and nothing that can be seen is other than ahead of it. */
    void refusedDue(String call, WorthKeeping x, int want, java.util.function.IntSupplier asked) {
        String before = Seen.of(x);
        due(call, want, asked.getAsInt());
        String behind = Seen.of(x);
        isTrue(call + " changes nothing: " + before + " became " + behind, before.equals(behind));
    }

    void end() {
        System.out.println(count + " sentences");
        checks.end();
    }
}
