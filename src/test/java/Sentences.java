/** Runs the tests of single sentences of the document, each for the promise or the section that it belongs to. */
final class Sentences {
    private static final int PROMISES = 18;
    private static final int[] TESTED = new int[PROMISES + 1];
    private static int testedInAll = 0;

    private Sentences() {
    }

    /** A test of its own for a sentence; what is wrong in it is printed with the sentence. */
    static void holds(int promise, String sentence, Runnable test) {
        TESTED[promise]++;
        holds("promise " + promise, sentence, test);
    }

    /** The same for a sentence that belongs to no promise alone. */
    static void holds(String section, String sentence, Runnable test) {
        testedInAll++;
        Check.about(section + ", \"" + sentence + "\": ");
        try {
            test.run();
        } catch (RuntimeException e) {
            Check.same("a call that is to be answered", "an answer", "throws." + e.getClass().getSimpleName());
        }
        Check.about("");
    }

    static void end() {
        System.out.println("sentences tested: " + testedInAll);
        Check.end();
    }

    /** Every promise is to have a sentence that was tested. */
    static void endOfAllPromises() {
        StringBuilder counts = new StringBuilder("by promises:");
        for (int promise = 1; promise <= PROMISES; promise++) {
            counts.append(' ').append(promise).append(':').append(TESTED[promise]);
            Check.same("promise " + promise + " has tests", true, TESTED[promise] > 0);
        }
        System.out.println(counts);
        end();
    }
}
