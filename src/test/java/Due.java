/** What the tests share: answers compared with what is due, and texts told. */
final class Due {
    private static int wrong = 0;
    private static int compared = 0;
    private static String sentence = "";

    private Due() { }

    static void is(String call, long got, long want) {
        compared++;
        if (got != want) {
            wrong++;
            System.out.println((sentence.isEmpty() ? "" : "\"" + sentence + "\": ") + call + " answered " + got + ", due is " + want);
        }
    }

    static void holds(String what, boolean so) {
        is(what, so ? 1 : 0, 1);
    }

    /** The document's sentence that the next answers belong to; empty for none. */
    static void under(String words) {
        sentence = words;
    }

    static int compared() {
        return compared;
    }

    static void types(EchoSeats x, String text) {
        for (int n = 0; n < text.length(); n++) {
            x.type(text.charAt(n));
        }
    }

    /** Types the text and reads it. */
    static int tell(EchoSeats x, String text) {
        types(x, text);
        return x.room();
    }

    static EchoSeats made(String text) {
        EchoSeats x = new EchoSeats();
        holds("room() of '" + text + "' is no FAULT", tell(x, text) >= 0);
        return x;
    }

    static void end() {
        System.out.println(compared + " answers compared, " + wrong + " wrong");
        if (wrong > 0 || compared == 0) {
            System.exit(1);
        }
    }
}
