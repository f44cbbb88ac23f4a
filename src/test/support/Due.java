/** Counts answers that are not as due, and tells under which sentence of the document they came. */
class Due {
    private static String sentence = "";
    private static int sentences = 0;
    private static int asked = 0;
    private static int wrong = 0;

    /** The words that the answers behind this are about. */
    static void sentence(String words) {
        sentence = words;
        sentences++;
    }

    static void due(String call, int got, int want) {
        due(call, Integer.toString(got), Integer.toString(want));
    }

    static void due(String call, String got, String want) {
        asked++;
        if (!got.equals(want)) {
            wrong++;
            System.out.println(sentence + (sentence.isEmpty() ? "" : ": ") + call + " answered " + got + ", due is "
                + want);
        }
    }

    static void due(Asked x, String call, int want) {
        due(call, x.ask(call), want);
    }

    /** The last call of a test's main method. */
    static void end() {
        System.out.println(sentences + " sentences, " + asked + " answers, " + wrong + " of them not as due");
        if (wrong != 0) {
            System.exit(1);
        }
    }
}
