/** Counts the answers, and prints those that are not the ones that are due. */
final class Due {
    private static String heading = "";
    private static int sentences = 0;
    private static int asked = 0;
    private static int wrong = 0;

    private Due() {
    }

    /** Tests one sentence of the document: the section where it stands, its words, and what holds the program to it. */
    static void test(String section, String words, Runnable body) {
        heading = section + ", \"" + words + "\": ";
        int before = asked;
        body.run();
        is("whether anything was asked", asked > before, true);
        heading = "";
        sentences++;
    }

    static void is(String call, long got, long want) {
        asked++;
        if (got != want) {
            wrong++;
            System.out.println(heading + call + " answered " + got + ", due is " + want);
        }
    }

    static void is(String call, boolean got, boolean want) {
        is(call, got ? 1L : 0L, want ? 1L : 0L);
    }

    static void end() {
        System.out.println(sentences + " sentences, " + asked + " answers, " + wrong + " not as due");
        if (wrong != 0 || asked == 0) {
            System.exit(1);
        }
    }
}
