/** Counts the answers that are not as due, and ends the program with 1 if there was one. */
final class Check {
    private int wrong;
    private int asked;
    private String sentence = "";
    private int askedBefore;

    /** The document's words that the answers from here on are due by; each of them must be asked something. */
    void sentence(String words) {
        closeSentence();
        sentence = "\"" + words + "\": ";
        askedBefore = asked;
    }

    void due(String call, long got, long want) {
        asked++;
        if (got != want) {
            complain(call + " answered " + got + ", due is " + want);
        }
    }

    void due(String call, boolean got, boolean want) {
        due(call, got ? 1 : 0, want ? 1 : 0);
    }

    boolean failed() {
        return wrong != 0;
    }

    void end() {
        closeSentence();
        System.out.println(wrong == 0 ? asked + " answers, all as due" : wrong + " of " + asked + " answers are not as due");
        if (wrong != 0) {
            System.exit(1);
        }
    }

    private void closeSentence() {
        if (!sentence.isEmpty() && asked == askedBefore) {
            complain("nothing was asked");
        }
    }

    private void complain(String what) {
        wrong++;
        // The first ones tell the cause; a thousand more would only hide them.
        if (wrong <= 40) {
            System.out.println(sentence + what);
        }
    }
}
