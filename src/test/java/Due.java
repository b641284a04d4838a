/** Answers that are due, told by the sentence of the document that asks for them. */
final class Due {
    private static String sentence = "";
    private static int sentences = 0;
    private static int right = 0;
    private static int wrong = 0;

    private Due() {
    }

    /** From here on answers are due by this sentence. */
    static void by(String where, String words) {
        sentence = where + ": \"" + words + "\"";
        sentences++;
    }

    static void is(String call, long got, long want) {
        is(call, String.valueOf(got), String.valueOf(want));
    }

    static void is(String call, String got, String want) {
        if (got.equals(want)) {
            right++;
        } else {
            wrong++;
            System.out.println(sentence + " " + call + " answered " + got + ", due is " + want);
        }
    }

    /** Tells how it went and ends the program with exit code 1, if an answer was not as due. */
    static void tell() {
        System.out.println(sentences + " sentences, " + right + " answers as due, " + wrong + " not");
        if (wrong != 0 || right == 0) {
            System.exit(1);
        }
    }
}
