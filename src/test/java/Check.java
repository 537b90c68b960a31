/** Counts and prints the answers that are not as due. */
final class Check {
    private static int wrong = 0;
    private static String heldTo = "";

    private Check() {
    }

    /** Names the promise and the sentence of the document that the checks from here on hold to. */
    static void sentence(String promise, String sentence) {
        heldTo = promise + ", \"" + sentence + "\": ";
    }

    static void due(String what, long got, long want) {
        if (got != want) {
            wrong++;
            System.out.println(heldTo + what + " answered " + got + ", due is " + want);
        }
    }

    static void due(String what, boolean got, boolean want) {
        due(what, got ? 1 : 0, want ? 1 : 0);
    }

    static void finish() {
        System.out.println(wrong == 0 ? "all answers are as due" : wrong + " answers are not as due");
        if (wrong != 0) {
            System.exit(1);
        }
    }
}
