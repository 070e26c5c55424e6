/** The tests of one program: which sentence of the document is tried, and what was not as due. */
final class Tally {
    private static String trying = "";
    private static int tests;
    private static int asked;
    private static int wrong;

    private Tally() {
    }

    /** One test, named by what the document says. */
    static void test(String sentence, Runnable body) {
        trying = sentence;
        tests++;
        int before = asked;
        body.run();
        if (asked == before) {
            fault("nothing was asked");
        }
    }

    static void due(String call, int got, int want) {
        asked++;
        if (got != want) {
            fault(call + " answered " + got + ", due is " + want);
        }
    }

    static void fault(String what) {
        wrong++;
        System.out.println("[" + trying + "] " + what);
    }

    /** Ends the program, with exit code 1 if anything was not as due. */
    static void end() {
        System.out.println(tests + " tests, " + asked + " answers, " + wrong + " not as due");
        if (wrong != 0) {
            System.exit(1);
        }
    }
}
