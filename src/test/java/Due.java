/**
 * What the tests share: a row for each wrong answer, an exit code of 1 if there was one, the document's
 * words that are tested just now, and texts that are fed.
 */
final class Due {
    private static int wrong;
    private static int asked;
    private static int askedAhead;
    private static String words = "";

    private Due() {
    }

    /**
     * The words of the document that the answers behind this are held against, and where they stand:
     * "terms 1" .. "terms 8", "promise 1" .. "promise 40", "what it is". SentenceTest looks for them there.
     */
    static void says(String where, String what) {
        mustHaveAsked();
        askedAhead = asked;
        words = where + " says '" + what + "': ";
    }

    private static void mustHaveAsked() {
        if (words.isEmpty() || asked > askedAhead) return;
        wrong++;
        System.out.println(words + "nothing was asked");
    }

    static void is(String call, int got, int want) {
        asked++;
        if (got != want) {
            wrong++;
            System.out.println(words + call + " answered " + got + ", due is " + want);
        }
    }

    static void is(String call, boolean got, boolean want) {
        is(call, got ? 1 : 0, want ? 1 : 0);
    }

    static void end() {
        mustHaveAsked();
        System.out.println(wrong == 0 ? asked + " answers are as due" : wrong + " of " + asked + " answers are not as due");
        if (wrong != 0) System.exit(1);
    }

    /** The text of the object is this one then, byte by byte. */
    static void feed(QuayRopes x, String text) {
        x.end(0);
        for (int i = 0; i < text.length(); i += 20) {
            x.feed(four(text, i), four(text, i + 4), four(text, i + 8), four(text, i + 12), four(text, i + 16));
        }
        is("end(" + text.length() + ")", x.end(text.length()), true);
    }

    /** Four bytes of a text from one on, the highest first; 0 behind its end. */
    static int four(String text, int from) {
        int four = 0;
        for (int i = from; i < from + 4; i++) four = four * 256 + (i < text.length() ? text.charAt(i) : 0);
        return four;
    }

    /** A new object with the PORT of a text. */
    static QuayRopes port(String text) {
        QuayRopes x = new QuayRopes();
        portAnew(x, text);
        return x;
    }

    static void portAnew(QuayRopes x, String text) {
        feed(x, text);
        is("fault() of " + text, x.fault(), QuayRopes.NONE);
        int stones = text.split("stone", -1).length - 1;
        is("port() of " + text, x.port(), stones);
    }

    /** A new object with the PORT of a text, and a ship. */
    static QuayRopes ship(String text, int bow, int deck) {
        QuayRopes x = port(text);
        is("ship(" + bow + ", " + deck + ")", x.ship(bow, deck), true);
        return x;
    }

    static void fault(String text, int want) {
        QuayRopes x = new QuayRopes();
        feed(x, text);
        is("fault() of '" + text + "'", x.fault(), want);
        is("port() of '" + text + "'", x.port() == QuayRopes.NONE, want != QuayRopes.NONE);
    }

    /** A number of a text, at '#', stands from its least to its greatest; one less and one more have the FAULT. */
    static void limit(String form, int low, int high) {
        int place = form.indexOf('#');
        fault(form.replace("#", "" + low), QuayRopes.NONE);
        fault(form.replace("#", "" + high), QuayRopes.NONE);
        if (low > 0) fault(form.replace("#", "" + (low - 1)), place);
        fault(form.replace("#", "" + (high + 1)), place);
        fault(form.replace("#", "" + (high + 1) + "000000000000"), place);
        // as a number of 32 or 64 bits they would be the least one
        fault(form.replace("#", "" + (low + 4294967296L)), place);
        fault(form.replace("#", new java.math.BigInteger("18446744073709551616").add(java.math.BigInteger.valueOf(low)).toString()), place);
    }
}
