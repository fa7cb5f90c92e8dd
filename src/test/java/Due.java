/** Holds the answers of a test against those that are due. */
final class Due {
    private int checks;
    private int wrong;
    private String sentence = "";

    /** Names the sentence of the document that the answers from here on are held against. */
    void sentence(String words) {
        sentence = "[" + words + "] ";
    }

    void is(String call, long got, long want) {
        checks++;
        if (got != want) {
            wrong++;
            System.out.println(sentence + call + " answered " + got + ", due is " + want);
        }
    }

    void is(String call, boolean got, boolean want) {
        is(call, got ? 1 : 0, want ? 1 : 0);
    }

    void is(String call, String got, String want) {
        checks++;
        if (!got.equals(want)) {
            wrong++;
            System.out.println(sentence + call + " gave " + got + ", due is " + want);
        }
    }

    void bytes(String call, int[] got, int[] want) {
        is(call, java.util.Arrays.toString(got), java.util.Arrays.toString(want));
    }

    int wrong() {
        return wrong;
    }

    /** Ends the test: with exit code 1 if an answer was wrong or nothing was asked. */
    void end() {
        if (wrong != 0 || checks == 0) {
            System.out.println(wrong + " of " + checks + " answers are not as due");
            System.exit(1);
        }
    }
}
