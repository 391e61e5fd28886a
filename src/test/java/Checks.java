/** Counts answers that are not the ones due. */
final class Checks {
    private final String name;
    private String sentence = "";
    private int sentences;
    private int asked;
    private int wrong;

    Checks(String name) {
        this.name = name;
    }

    /** What is asked from now on is due by this sentence of the document. */
    void by(String words) {
        sentence = words;
        sentences++;
    }

    void due(String call, long got, long want) {
        asked++;
        if (got != want) {
            wrong++;
            String source = sentence.isEmpty() ? "" : " by \"" + sentence + "\"";
            System.out.println(name + ": " + call + " answered " + got + ", due is " + want + source);
        }
    }

    void same(String what, String got, String want) {
        asked++;
        if (!got.equals(want)) {
            wrong++;
            String source = sentence.isEmpty() ? "" : " by \"" + sentence + "\"";
            System.out.println(name + ": " + what + " is\n  " + got + "\ndue is\n  " + want + source);
        }
    }

    void yes(String call, boolean got) {
        due(call, got ? 1 : 0, 1);
    }

    void no(String call, boolean got) {
        due(call, got ? 1 : 0, 0);
    }

    void end() {
        String told = sentences == 0 ? "" : " by " + sentences + " sentences";
        System.out.println(name + ": " + asked + " answers" + told + ", " + wrong + " wrong");
        if (wrong != 0 || asked == 0) {
            System.exit(1);
        }
    }
}
