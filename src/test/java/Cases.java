/** Tests that bear a name each: the promise and the sentence that they hold the class to. */
final class Cases {
    /** What one test asks. */
    interface Case {
        void ask(Due due);
    }

    private final Due due = new Due();
    private int cases;

    void test(String sentence, Case asked) {
        due.about(sentence);
        cases++;
        try {
            asked.ask(due);
        } catch (RuntimeException | StackOverflowError thrown) {
            due.fail("no call throws, but " + thrown);
        }
    }

    void close() {
        System.out.println(cases + " tests");
        due.close();
    }
}
