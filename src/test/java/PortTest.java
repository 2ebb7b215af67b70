/** Promises 1 to 5 and 40: a new object, the text, its FAULT, the PORT, and what is counted. */
public final class PortTest {
    private static final int NONE = QuayRopes.NONE;
    private static final String LEAST = "stone 7 7;rope 7 7;";

    public static void main(String[] args) {
        newObject();
        constants();
        fed();
        ended();
        faults();
        limits();
        tooMany();
        tooEarly();
        ports();
        counted();
        Due.end();
    }

    private static void newObject() {
        QuayRopes x = new QuayRopes();
        Due.is("1: fault()", x.fault(), 0);
        Due.is("1: port()", x.port(), NONE);
        Due.is("1: ship(0, 0)", x.ship(0, 0), false);
        Due.is("1: line(0, 0, 0, 0, 0)", x.line(0, 0, 0, 0, 0), NONE);
        Due.is("1: letGo()", x.letGo(), NONE);
        Due.is("1: rests(0, 0, 0, 0)", x.rests(0, 0, 0, 0), QuayRopes.VOID);
        Due.is("1: call(0, 1, 10)", x.call(0, 1, 10), NONE);
        Due.is("1: met(0, 0)", x.met(0, 0), NONE);
        Due.is("1: least()", x.least(), NONE);
        Due.is("1: pay(0, 0)", x.pay(0, 0), NONE);
        Due.is("1: ring(1, 0)", x.ring(1, 0), NONE);
        Due.is("1: turn(1)", x.turn(1), NONE);
        Due.is("1: luck(0, 0)", x.luck(0, 0), NONE);
        Due.is("1: undo()", x.undo(), NONE);
        Due.is("1: depth(0)", x.depth(0), NONE);
        Due.is("1: visit(1001, 1)", x.visit(1001, 1), NONE);
        Due.is("1: plan(-1)", x.plan(NONE), NONE);
        Due.is("1: task(1, 0, 1)", x.task(1, 0, 1), NONE);
        Due.is("1: storm(1, -1)", x.storm(1, NONE), NONE);
        Due.is("1: weather(0, 0, 0)", x.weather(0, 0, 0), NONE);
        Due.is("1: image(0)", x.image(0), false);
        Due.is("1: back(0)", x.back(0), false);
        for (int what = 0; what <= 11; what++) Due.is("1: count(" + what + ")", x.count(what), 0);
    }

    private static void constants() {
        Due.is("NONE", QuayRopes.NONE, -1);
        Due.is("VOID", QuayRopes.VOID, Integer.MIN_VALUE);
    }

    private static void fed() {
        QuayRopes x = new QuayRopes();
        for (int n = 20; n <= 500; n += 20) Due.is("2: feed", x.feed(0, 0, 0, 0, 0), n);
        Due.is("2: feed beyond 500", x.feed(0, 0, 0, 0, 0), NONE);
        Due.is("2: bytes", x.count(7), 500);
        x.end(481);
        Due.is("2: feed at 481", x.feed(0, 0, 0, 0, 0), NONE);
        x.end(480);
        Due.is("2: feed at 480", x.feed(0, 0, 0, 0, 0), 500);
        // the highest byte of a number comes first, and the first number
        x = new QuayRopes();
        x.feed(0x73746f6e, 0x65203720, 0x373b2072, 0x6f706520, 0x3720373b);
        Due.is("2: 'stone 7 7; rope 7 7;'", x.fault(), NONE);
        x.end(16);
        Due.is("2: behind 16", x.feed(0x3720373b, 0x20202020, 0x20202020, 0x2020200a, 0xff202020), 36);
        Due.is("2: byte 255", x.fault(), 32);
    }

    private static void ended() {
        QuayRopes x = new QuayRopes();
        Due.is("3: end(0)", x.end(0), true);
        Due.is("3: end(1)", x.end(1), false);
        Due.feed(x, LEAST + " stone 8 x");
        Due.is("3: end(-1)", x.end(-1), false);
        Due.is("3: end(MIN)", x.end(Integer.MIN_VALUE), false);
        Due.is("3: end(30)", x.end(30), false);
        Due.is("3: end(MAX)", x.end(Integer.MAX_VALUE), false);
        Due.is("3: bytes", x.count(7), 29);
        Due.is("3: fault", x.fault(), 28);
        Due.is("3: end(29)", x.end(29), true);
        Due.is("3: fault", x.fault(), 28);
        Due.is("3: end(19)", x.end(19), true);
        Due.is("3: end(20)", x.end(20), false);
        Due.is("3: fault", x.fault(), NONE);
    }

    private static void faults() {
        Due.fault("", 0);
        Due.fault("  \n", 3);
        Due.fault("stone 5 10;", 11);
        Due.fault("rope 5 10;", 10);
        Due.fault("tide 1 2 3 4 5 6;", 17);
        Due.fault("stone 5 10;rope 5 10;", NONE);
        Due.fault("rope 5 10;stone 5 10;", NONE);
        Due.fault("\n stone\n5 \n10\n;\n rope 1   1 ; \n", NONE);
        Due.fault("stone5 10;rope1 1;", NONE);
        Due.fault("stone 0000000005 0010;rope 1 1;", NONE);
        Due.fault("stone\t5 10;", 5);
        Due.fault("stone 5 10;\rrope 1 1;", 11);
        Due.fault("Stone 5 10;", 0);
        Due.fault(LEAST + "Stone", 19);
        Due.fault("stones 5 10;", 0);
        Due.fault("ston 5 10;", 0);
        Due.fault("atone 5 10;", 0);
        Due.fault("rape 5 10;", 0);
        Due.fault("rope 5 10;stonf 5 10;", 10);
        Due.fault(LEAST + "ropestone 1 1;", 19);
        Due.fault(";", 0);
        Due.fault("  5", 2);
        Due.fault(LEAST + ";", 19);
        Due.fault("stone stone 5;", 6);
        Due.fault("stone;", 5);
        Due.fault("stone 5;", 7);
        Due.fault("stone 5 6 7;", 10);
        Due.fault("stone 5 6 rope 1 1;", 10);
        Due.fault("stone 5a6;", 7);
        Due.fault("stone 5 1$0;", 9);
        Due.fault("stone $ x;", 6);
        Due.fault("stone x $;", 6);
        Due.fault("stone -5 6;", 6);
        Due.fault("stone 5.5 6;", 7);
        Due.fault("stone 5 99999999999999999999999;rope 1 1;", 8);
        Due.fault("stone 4294967301 6;rope 1 1;", 6);
        Due.fault("stone 5 4294967297;rope 1 1;", 8);
        Due.fault("stone 5 6;stone 5 7;rope 1 1;", 16);
        Due.fault("stone 5 6;stone 05 7;rope 1 1;", 16);
        Due.fault("stone 5 6;stone 6 6;rope 1 1;rope 1 1;", NONE);
        Due.fault(LEAST + "deep 10 10 5;", 27);
        Due.fault(LEAST + "deep 10 9 5;", 27);
        Due.fault(LEAST + "deep 199 200 0;deep 199 200 0;", NONE);
        Due.fault(LEAST + "deep 200 200 5;", 28);
        Due.fault(LEAST + "deep 50 60 5;deep 10 20 5;deep 30 40 5;", NONE);
        Due.fault(LEAST + "deep 50 60 5;deep 40 50 5;deep 30 20 5;", 53);
        Due.fault(LEAST + "deep 10 20 5;deep 30 15 5;", 40);
        Due.fault(LEAST + "tide 0 9 0 9 0;", 33);
        Due.fault(LEAST + "tide 0 9 0 9 0 9 0;", 36);
        Due.fault(LEAST + "tide 10 9 0 9 0 9;", 24);
        Due.fault(LEAST + "\u00e9", 19);
        Due.fault(LEAST + "\0", 19);
    }

    /** Each number's least and greatest stand; one less and one more can't. */
    private static void limits() {
        limit("stone # 5;", 0, 199);
        limit("stone 5 #;", 1, 999);
        limit("rope # 5;", 1, 999);
        limit("rope 5 #;", 1, 20);
        limit("deep # 200 5;", 0, 199);
        limit("deep 0 # 5;", 1, 200);
        limit("deep 0 5 #;", 0, 40);
        limit("tide # 0 0 0 0 0;", 0, 9);
        limit("tide 0 # 0 0 0 0;", 0, 9);
        limit("tide 0 0 # 0 0 0;", 0, 9);
        limit("tide 0 0 0 # 0 0;", 0, 9);
        limit("tide 0 0 0 0 # 0;", 0, 9);
        limit("tide 0 0 0 0 0 #;", 0, 9);
        limit("gang # 0;", 1, 20);
        limit("gang 1 #;", 0, 600);
        limit("tugs #;", 0, 6);
        limit("pay # 0 0;", 0, 99);
        limit("pay 0 # 0;", 0, 99);
        limit("pay 0 0 #;", 0, 99);
    }

    private static void limit(String form, int low, int high) {
        String text = LEAST + form;
        int place = text.indexOf('#');
        Due.fault(text.replace("#", "" + low), NONE);
        Due.fault(text.replace("#", "" + high), NONE);
        if (low > 0) Due.fault(text.replace("#", "" + (low - 1)), place);
        // from 200 on a stretch has no end, so that the fault is at that
        boolean begins = form.startsWith("deep #");
        Due.fault(text.replace("#", "" + (high + 1)), begins ? place + 4 : place);
        if (begins) Due.fault(text.replace("#", "201"), place);
    }

    private static void tooMany() {
        StringBuilder text = new StringBuilder();
        for (int i = 0; i < 8; i++) text.append("stone ").append(i).append(" 5;");
        for (int i = 0; i < 4; i++) text.append("rope 5 5;deep 0 5 5;gang 5 5;");
        text.append("tide 0 0 0 0 0 0;tugs 0;pay 0 0 0;");
        Due.fault(text.toString(), NONE);
        for (String more : new String[] {"stone 9 9;", "rope 5 5;", "deep 0 5 5;", "gang 5 5;", "tide 0 0 0 0 0 0;", "tugs 0;", "pay 0 0 0;"}) {
            Due.fault(text + " " + more, text.length() + 1);
            Due.fault(text + " " + more.substring(0, 3), text.length() + 1);
        }
    }

    private static void tooEarly() {
        String[] all = {"stone 8 5;", "rope 5 5;", "deep 0 5 5;", "tide 0 1 2 3 4 5;", "gang 5 5;", "tugs 0;", "pay 0 0 0;"};
        for (String one : all) {
            int word = one.indexOf(' ');
            for (int n = word; n < one.length(); n++) Due.fault(LEAST + one.substring(0, n), LEAST.length() + n);
            Due.fault(LEAST + one.substring(0, word) + " \n ", LEAST.length() + word + 3);
            // a word that is not yet whole tells nothing
            Due.fault(LEAST + one.substring(0, word - 1), LEAST.length());
        }
    }

    private static void ports() {
        QuayRopes x = Due.port("stone 1 1; stone 2 2; stone 3 3; rope 1 1; rope 2 2; gang 3 3; tugs 4; deep 0 9 9;");
        Due.is("5: text", x.count(7), 0);
        Due.is("5: port() of no text", x.port(), NONE);
        Due.is("5: stones", x.count(0), 3);
        x.ship(5, 5);
        Due.feed(x, "stone 1 1; rope 1 ");
        Due.is("5: port() with a FAULT", x.port(), NONE);
        Due.is("5: the text stays", x.count(7), 18);
        Due.is("5: the PORT stays", x.count(1), 2);
        Due.is("5: the ship stays", x.line(0, 0, 2, 100, 0), 0);
        full(x);
        Due.feed(x, "stone 1 1; rope 1 1; stone 2 2; gang 1 1;");
        Due.is("5: port()", x.port(), 2);
        for (int what = 3; what <= 11; what++) Due.is("5: anew, count(" + what + ")", x.count(what), 0);
        Due.is("5: no ship", x.rests(0, 0, 0, 0), QuayRopes.VOID);
        Due.is("5: no LINE without a ship", x.line(0, 0, 0, 0, 0), NONE);
        for (int k = 0; k < 3; k++) Due.is("5: no images", x.back(k), false);
        Due.is("5: no TURNS from before", x.turn(1), 0);
        Due.is("5: ship()", x.ship(0, 0), true);
        Due.is("5: no LINES", x.letGo(), NONE);
        // a stretch, a tide, tugs, pay of the PORT ahead are none of this one's
        Due.is("5: depth", x.depth(5), 0);
        Due.is("5: TUGS", x.call(0, 1, 11), 0);
        Due.is("5: TUGS", x.least(), NONE);
        for (int i = 0; i < 3; i++) {
            Due.portAnew(x, "stone 1 1; rope 1 1; tide 9 9 9 9 9 9; tugs 3; pay 9 9 9; gang 9 0;");
            Due.feed(x, "stone 1 1; rope 1 1; tide 9 9 9 9 9 9; tugs 3; pay 9 9 9; gang 9 0; stone");
            Due.is("5: a FAULT", x.fault(), 73);
            for (int k = 0; k <= i; k++) Due.portAnew(x, "stone 1 1; rope 1 1; gang 9 0;");
            Due.is("5: TUGS", x.count(3), 0);
            x.call(0, 1, 10);
            Due.is("5: no pay", x.pay(0, 0), 0);
            x.ship(1, 0);
            x.line(0, 0, 0, 0, 0);
            Due.is("5: no tide", x.of(0, 5), 5);
        }
    }

    /** Something of everything that a PORT loses. */
    private static void full(QuayRopes x) {
        for (int k = 0; k < 3; k++) Due.is("5: image", x.image(k), true);
        Due.is("5: call", x.call(0, 1, 10), 0);
        Due.is("5: ring", x.ring(1, 0), 1);
        Due.is("5: visit", x.visit(1001, 1), 0);
        Due.is("5: task", x.task(1, 1, 1), 0);
        Due.is("5: weather", x.weather(1, 1, 1), 1);
    }

    private static void counted() {
        QuayRopes x = Due.port("stone 1 1;stone 2 1;stone 3 1;rope 1 1;rope 1 1;gang 1 1;gang 2 2;gang 3 3;gang 4 4;tugs 5;deep 0 1 1;deep 0 2 2;deep 0 3 3;");
        x.ship(0, 0);
        for (int i = 0; i < 4; i++) x.line(0, 0, 0, 0, 0);
        for (int i = 0; i < 5; i++) x.call(0, 1, 10);
        for (int i = 0; i < 6; i++) x.ring(15, 3);
        for (int i = 0; i < 2; i++) x.visit(1001, 1);
        for (int i = 0; i < 3; i++) x.task(1, 1, 1);
        for (int i = 0; i < 7; i++) x.weather(0, 0, 0);
        x.feed(0, 0, 0, 0, 0);
        int[] want = {3, 2, 4, 5, 4, 5, 6, 20, 3, 2, 3, 7};
        for (int what = 0; what < want.length; what++) Due.is("40: count(" + what + ")", x.count(what), want[what]);
        for (int what : new int[] {-1, 12, 13, Integer.MIN_VALUE, Integer.MAX_VALUE}) Due.is("40: count(" + what + ")", x.count(what), NONE);
        Due.is("40: no tugs", Due.port("stone 1 1;rope 1 1;").count(3), 0);
    }
}
