/** Counts answers that are not as due; a test ends with exit code 1 if there was one. */
final class Check {
    private final String name;
    private String sentence = "";
    private int asked = 0;
    private int wrong = 0;

    Check(String name) {
        this.name = name;
    }

    /** The answers from here on are due by these words of a promise. */
    void promise(int number, String words) {
        sentence = "promise " + number + ", \"" + words + "\": ";
    }

    /** The answers from here on are due to a promise by these words of the section "Terms". */
    void terms(int number, String words) {
        sentence = "promise " + number + ", terms \"" + words + "\": ";
    }

    void due(String call, long got, long want) {
        asked++;
        if (got != want) {
            wrong++;
            System.out.println(name + ": " + sentence + call + " answered " + got + ", due is " + want);
        }
    }

    void due(String call, boolean got, boolean want) {
        due(call, got ? 1 : 0, want ? 1 : 0);
    }

    int wrong() {
        return wrong;
    }

    void end() {
        System.out.println(name + ": " + asked + " answers, " + wrong + " not as due");
        if (wrong != 0 || asked == 0) {
            System.exit(1);
        }
    }
}
