/** What the tests share: a row for each wrong answer, an exit code of 1 if there was one, and texts that are fed. */
final class Due {
    private static int wrong;
    private static int asked;

    private Due() {
    }

    static void is(String call, int got, int want) {
        asked++;
        if (got != want) {
            wrong++;
            System.out.println(call + " answered " + got + ", due is " + want);
        }
    }

    static void is(String call, boolean got, boolean want) {
        is(call, got ? 1 : 0, want ? 1 : 0);
    }

    static void end() {
        System.out.println(wrong == 0 ? asked + " answers are as due" : wrong + " of " + asked + " answers are not as due");
        if (wrong != 0) System.exit(1);
    }

    /** The text of the object is this one then, byte by byte. */
    static void feed(QuayRopes x, String text) {
        x.end(0);
        for (int i = 0; i < text.length(); i += 20) {
            x.feed(four(text, i), four(text, i + 4), four(text, i + 8), four(text, i + 12), four(text, i + 16));
        }
        is("end(" + text.length() + ")", x.end(text.length()), true);
    }

    /** Four bytes of a text from one on, the highest first; 0 behind its end. */
    static int four(String text, int from) {
        int four = 0;
        for (int i = from; i < from + 4; i++) four = four * 256 + (i < text.length() ? text.charAt(i) : 0);
        return four;
    }

    /** A new object with the PORT of a text. */
    static QuayRopes port(String text) {
        QuayRopes x = new QuayRopes();
        portAnew(x, text);
        return x;
    }

    static void portAnew(QuayRopes x, String text) {
        feed(x, text);
        is("fault() of " + text, x.fault(), QuayRopes.NONE);
        int stones = text.split("stone", -1).length - 1;
        is("port() of " + text, x.port(), stones);
    }

    static void fault(String text, int want) {
        QuayRopes x = new QuayRopes();
        feed(x, text);
        is("fault() of '" + text + "'", x.fault(), want);
        is("port() of '" + text + "'", x.port() == QuayRopes.NONE, want != QuayRopes.NONE);
    }
}
