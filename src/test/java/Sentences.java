/** Runs tests that each bear the sentence of the document which they would see broken. */
final class Sentences {
    private final Due due = new Due();
    private String sentence = "";

    /** A test that throws, or that asks nothing, has failed. */
    void test(String words, Runnable test) {
        sentence = words;
        int before = due.asked();
        try {
            test.run();
        } catch (RuntimeException thrown) {
            same("no call may throw", thrown.toString(), "");
        }
        due("something was asked", due.asked() > before, true);
    }

    void due(String call, long got, long want) {
        due.due("[" + sentence + "] " + call, got, want);
    }

    void due(String call, boolean got, boolean want) {
        due.due("[" + sentence + "] " + call, got, want);
    }

    void same(String what, String got, String want) {
        if (!got.equals(want)) {
            System.out.println(got + "\n  and not " + want + ":");
        }
        due(what, got.equals(want), true);
    }

    void end() {
        due.end();
    }
}
