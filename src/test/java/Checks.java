/** Counts what was checked, sentence by sentence of the document, and prints what was not as it is due. */
final class Checks {
    private String sentence = "";
    private int sentences;
    private int checkedOfSentence;
    private int checked;
    private int wrong;
    private int sentencesOfNothing;

    /** The words of the document that the checks from here on hold to. */
    void sentence(String words) {
        endSentence();
        sentence = words;
        sentences++;
        checkedOfSentence = 0;
    }

    private void endSentence() {
        if (sentences > 0 && checkedOfSentence == 0) {
            sentencesOfNothing++;
            System.out.println("nothing was checked for \"" + sentence + "\"");
        }
    }

    void due(String what, long got, long want) {
        checked++;
        checkedOfSentence++;
        if (got != want) {
            wrong++;
            if (wrong <= 20) {
                System.out.println("\"" + sentence + "\": " + what + " answered " + got + ", due is " + want);
            }
        }
    }

    void due(String what, boolean got, boolean want) {
        due(what, got ? 1 : 0, want ? 1 : 0);
    }

    void due(String what, String got, String want) {
        due(what + " (" + got + " for " + want + ")", got.equals(want), true);
    }

    void end() {
        endSentence();
        System.out.println(sentences + " sentences, " + checked + " checked, " + wrong + " wrong");
        if (wrong != 0 || checked == 0 || sentencesOfNothing != 0) {
            System.exit(1);
        }
    }
}
