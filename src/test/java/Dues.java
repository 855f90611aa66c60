/** Counts the answers that are not the ones that are due; every test here ends by end(). */
final class Dues {
    /** One call; what it answers or throws is compared as a text. */
    interface Call {
        long answer();
    }

    static final String ARGUMENT = "throws.IllegalArgumentException";
    static final String STATE = "throws.IllegalStateException";

    private static final int MOST_PRINTED = 50;

    private static String sentence = "";
    private static int wrong = 0;
    private static int asked = 0;

    private Dues() {
    }

    /** The document's sentence that the answers from here on are due by; a wrong answer is printed with it. */
    static void by(String words) {
        sentence = words;
    }

    static String told(Call call) {
        try {
            return Long.toString(call.answer());
        } catch (RuntimeException e) {
            // The exact class: a machine's exception below a promised class must not pass for it.
            return "throws." + e.getClass().getSimpleName();
        }
    }

    static void due(String call, String got, String want) {
        asked++;
        if (!got.equals(want)) {
            wrong++;
            if (wrong <= MOST_PRINTED) {
                System.out.println(call + " answered " + got + ", due is " + want + " by \"" + sentence + "\"");
            }
        }
    }

    static void due(String call, Call got, long want) {
        due(call, told(got), Long.toString(want));
    }

    static void due(String call, Call got, String want) {
        due(call, told(got), want);
    }

    static void end() {
        System.out.println(asked + " answers, " + wrong + " not as due");
        if (wrong != 0 || asked == 0) {
            System.exit(1);
        }
    }
}
