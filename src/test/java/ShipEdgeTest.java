/** The edges that section 2 of the document (the ship and her LINES), images and promises 6 to 10, 38 and 39 name. */
public final class ShipEdgeTest {
    private static final int NONE = QuayRopes.NONE;
    private static final int VOID = QuayRopes.VOID;
    private static final int MIN = Integer.MIN_VALUE;
    private static final int MAX = Integer.MAX_VALUE;
    private static final String TEXT = "stone 50 999; stone 0 999; stone 199 999; rope 99 1; rope 50 3; tide 0 2 4 6 4 9;";

    public static void main(String[] args) {
        bowAndDeck();
        lines();
        length();
        laid();
        pull();
        imagesOfShipAndLines();
        shipComes();
        shipRefused();
        lineComes();
        lineRefused();
        mended();
        mendRefused();
        letGo();
        letGoWithout();
        ofALine();
        ofOthers();
        imageComes();
        imageRefused();
        goneBackTo();
        backRefused();
        Due.end();
    }

    private static void bowAndDeck() {
        Due.says("terms 2", "The SHIP has her BOW at a place (0 .. 199) and a DECK (0 .. 30).");
        QuayRopes x = Due.port(TEXT);
        for (int bow = -1; bow <= 200; bow++) Due.is("ship(" + bow + ", 9)", x.ship(bow, 9), bow >= 0 && bow <= 199);
        for (int deck = -1; deck <= 31; deck++) Due.is("ship(9, " + deck + ")", x.ship(9, deck), deck >= 0 && deck <= 30);
        for (int[] ends : new int[][] {{0, 0}, {0, 30}, {199, 0}, {199, 30}}) {
            Due.is("ship(" + ends[0] + ", " + ends[1] + ")", x.ship(ends[0], ends[1]), true);
            x.line(0, 0, 1, 0, 0);
            Due.is("LAID", x.of(0, 5), ends[0] + 5 + ends[1]);
        }
    }

    private static void lines() {
        Due.says("terms 2", "LINES (at most 6, numbers as they come) are made fast in an hour (0 .. 99): from a HOLE (0 .. 80 behind the BOW: at BOW and HOLE) to a STONE, of a ROPE, with SLACK (0 .. 20) and AGE (0 .. 99).");
        QuayRopes x = Due.ship(TEXT, 10, 20);
        int[][] ends = {{0, 0, 0, 0, 0}, {99, 0, 0, 0, 0}, {0, 80, 0, 0, 0}, {0, 0, 2, 0, 0}, {0, 0, 0, 199, 0}, {0, 0, 0, 0, 20}};
        for (int i = 0; i < 6; i++) Due.is("line " + i, x.line(ends[i][0], ends[i][1], ends[i][2], ends[i][3], ends[i][4]), i);
        Due.is("at most 6", x.line(0, 0, 0, 0, 0), NONE);
        // at BOW and HOLE: 10, but for LINE 2 at 90; the WATER is 2 in hour 99, 0 in hour 0
        int[] laid = {40 + 5 + 20, 40 + 5 + 18, 40 + 5 + 20, 189 + 5 + 20, 40 + 5 + 20, 40 + 5 + 20 + 20};
        for (int i = 0; i < 6; i++) {
            Due.is("HOLE of LINE " + i, x.of(i, 0), ends[i][1]);
            Due.is("STONE of LINE " + i, x.of(i, 1), ends[i][2]);
            Due.is("ROPE of LINE " + i, x.of(i, 2), ends[i][3] / 100);
            Due.is("SLACK of LINE " + i, x.of(i, 3), ends[i][4]);
            Due.is("AGE of LINE " + i, x.of(i, 4), ends[i][3] % 100);
            Due.is("LAID of LINE " + i, x.of(i, 5), laid[i]);
        }
        // a HOLE may be beyond the quay
        x = Due.ship(TEXT, 199, 30);
        x.line(0, 80, 1, 0, 20);
        Due.is("LAID at 279", x.of(0, 5), 279 + 5 + 30 + 20);
        oneByOne();
    }

    private static void oneByOne() {
        QuayRopes x = Due.ship(TEXT, 10, 20);
        for (int n = -1; n <= 100; n++) {
            Due.is("in hour " + n, x.line(n, 0, 0, 0, 0), n >= 0 && n <= 99 ? 0 : NONE);
            x.letGo();
        }
        for (int n = -1; n <= 81; n++) {
            Due.is("from HOLE " + n, x.line(0, n, 0, 0, 0), n >= 0 && n <= 80 ? 0 : NONE);
            x.letGo();
        }
        for (int n = -1; n <= 21; n++) {
            Due.is("with SLACK " + n, x.line(0, 0, 0, 0, n), n >= 0 && n <= 20 ? 0 : NONE);
            x.letGo();
        }
        for (int n = 0; n <= 3; n++) {
            Due.is("to STONE " + n, x.line(0, 0, n, 0, 0), n < 3 ? 0 : NONE);
            x.letGo();
        }
    }

    private static void length() {
        Due.says("terms 2", "With the ship moved by u along the quay and v off it, a LINE's LENGTH in an hour is |X - BOW - HOLE - u| + 5 + v + |DECK - WATER|.");
        QuayRopes x = Due.ship("stone 100 999; rope 999 1; tide 0 9 4 4 4 4;", 50, 4);
        // ahead by 2: beyond it the LENGTH grows again, and at u 4 it is what it was laid
        x.line(4, 48, 0, 0, 0);
        for (int stream = 1; stream <= 16; stream++) Due.is("u in a STREAM of " + stream, x.rests(4, 0, stream, 0), stream + 4);
        Due.is("at most 20", x.rests(4, 0, 17, 0), 20);
        Due.is("PULL at u 20", x.pull(4, 0, 17, 0), 16);
        for (int stream = -1; stream >= -20; stream--) Due.is("u in a STREAM of " + stream, x.rests(4, 0, stream, 0), stream);
        // |DECK - WATER| is 0 in hour 4, 4 in hour 0, 5 in hour 2, whichever is the higher
        x.ship(50, 4);
        x.line(4, 50, 0, 0, 20);
        Due.is("SLACK 20", x.pull(4, 999, 0, 0), 0);
        Due.is("DECK above WATER", x.pull(0, 999, 0, 0), 4);
        Due.is("WATER above DECK", x.pull(2, 999, 0, 0), 5);
        x.mend(0, 2, 0);
        Due.is("v 20, 5 less", x.pull(4, 999, 0, 0), 15);
        Due.is("v 20, 1 less", x.pull(0, 999, 0, 0), 19);
        Due.is("v 20", x.pull(2, 999, 0, 0), 20);
        Due.is("v 20, 12 hours behind", x.pull(14, 999, 0, 0), 20);
    }

    private static void laid() {
        Due.says("terms 2", "Its LAID length is that LENGTH in its own hour, u and v 0, and its SLACK.");
        QuayRopes x = Due.ship(TEXT, 20, 5);
        int[] waters = {0, 0, 2, 2, 4, 4, 6, 6, 4, 4, 9, 9};
        for (int line = 0; line < 3; line++) x.line(0, 40, line, 0, 0);
        int[] ways = {10, 60, 139};
        for (int hour = 0; hour < 100; hour++) {
            int line = hour % 3;
            int slack = hour % 21;
            x.mend(line, hour, slack);
            Due.is("LAID of LINE " + line + " in hour " + hour, x.of(line, 5), ways[line] + 5 + Math.abs(5 - waters[hour % 12]) + slack);
        }
        // where she RESTS, and in which hour, is no matter
        x.rests(10, 999, 99, 0);
        Due.is("LAID of LINE 0", x.of(0, 5), 10 + 5 + 3 + 99 % 21);
    }

    private static void pull() {
        Due.says("terms 2", "Its PULL is K times its LENGTH less LAID, or 0, if that is below 0.");
        for (int k = 1; k <= 20; k++) {
            QuayRopes x = Due.ship("stone 50 999; rope 999 " + k + "; tide 0 9 0 0 0 0;", 50, 10);
            x.line(0, 0, 0, 0, 1);
            Due.is("K " + k + " at v 20", x.pull(0, 999, 0, 0), 19 * k);
            Due.is("less LAID below 0", x.pull(2, 0, 0, 0), 0);
            x.mend(0, 0, 0);
            Due.is("K " + k + " at v 1", x.pull(0, k, 0, 0), k);
            Due.is("less LAID 0", x.pull(0, 0, 0, 0), 0);
            x.mend(0, 0, 20);
            Due.is("less LAID 0 at v 20", x.pull(0, 999, 0, 0), 0);
            x.mend(0, 2, 0);
            Due.is("at v 0", x.pull(0, 0, 0, 0), 9 * k);
        }
    }

    private static void imagesOfShipAndLines() {
        Due.says("terms 7", "An IMAGE (0 .. 2) has the ship and all LINES as they are then; gone back to, they are so again.");
        QuayRopes x = Due.port(TEXT);
        for (int k = 0; k < 3; k++) {
            x.ship(50 + 10 * k, 10 + k);
            for (int i = 0; i < 3 * k; i++) x.line(i, 10 * i, i % 3, 100 * (i % 2) + 11 * i + k, 2 * i + k);
            Due.is("image(" + k + ")", x.image(k), true);
        }
        x.ship(0, 0);
        x.line(99, 80, 2, 99, 9);
        for (int k : new int[] {1, 0, 2, 2, 1}) {
            Due.is("back(" + k + ")", x.back(k), true);
            asInImage(x, k);
            // what is changed then is changed of the ship alone
            if (k > 0) x.mend(0, 50, 20);
            x.letGo();
            x.line(98, 79, 2, 98, 8);
            if (k == 0) x.ship(199, 30);
        }
        x.back(0);
        Due.is("a LINE of the image's ship", x.line(0, 0, 0, 0, 0), 0);
        Due.is("her BOW and DECK", x.of(0, 5), 0 + 5 + 10);
    }

    private static void asInImage(QuayRopes x, int k) {
        int[] waters = {0, 0, 2, 2, 4, 4};
        int[] places = {50, 0, 199};
        Due.is("LINES", x.count(4), 3 * k);
        for (int i = 0; i < 3 * k; i++) {
            int far = Math.abs(places[i % 3] - 50 - 10 * k - 10 * i);
            int[] want = {10 * i, i % 3, i % 2, 2 * i + k, 11 * i + k, far + 5 + 10 + k - waters[i] + 2 * i + k};
            for (int what = 0; what < 6; what++) Due.is("of(" + i + ", " + what + ")", x.of(i, what), want[what]);
        }
        Due.is("no more LINES", x.of(3 * k, 0), NONE);
    }

    private static void shipComes() {
        Due.says("promise 6", "A SHIP, without LINES: true;");
        QuayRopes x = Due.ship(TEXT, 20, 10);
        Due.is("without LINES", x.letGo(), NONE);
        for (int i = 0; i < 6; i++) x.line(0, 0, 0, 0, 0);
        Due.is("ship(20, 10)", x.ship(20, 10), true);
        Due.is("without LINES", x.count(4), 0);
        Due.is("without LINES", x.of(0, 0), NONE);
        Due.is("without LINES", x.pull(0, 999, 0, NONE), 0);
        Due.is("her first LINE", x.line(0, 0, 0, 0, 0), 0);
    }

    private static void shipRefused() {
        Due.says("promise 6", "false if there is no PORT, or it can't be.");
        QuayRopes x = new QuayRopes();
        Due.is("no PORT", x.ship(0, 0), false);
        Due.feed(x, "stone 1 1;rope 1 1;");
        Due.is("a text is no PORT yet", x.ship(0, 0), false);
        x.port();
        int[][] cant = {{-1, 0}, {200, 0}, {0, -1}, {0, 31}, {-1, -1}, {200, 31}, {MIN, 0}, {MAX, 0}, {0, MIN}, {0, MAX}, {MIN, MIN}, {MAX, MAX}};
        for (int[] c : cant) {
            Due.is("ship(" + c[0] + ", " + c[1] + ")", x.ship(c[0], c[1]), false);
            Due.is("none came", x.rests(0, 0, 0, 0), VOID);
        }
        x.ship(1, 9);
        x.line(0, 0, 0, 0, 0);
        for (int[] c : cant) {
            Due.is("ship(" + c[0] + ", " + c[1] + ")", x.ship(c[0], c[1]), false);
            Due.is("the one ahead stays", x.of(0, 5), 0 + 5 + 9);
        }
    }

    private static void lineComes() {
        Due.says("promise 7", "A LINE: its number;");
        QuayRopes x = Due.ship(TEXT, 0, 0);
        for (int i = 0; i < 6; i++) Due.is("line", x.line(0, 0, 0, 0, 0), i);
        x.letGo();
        x.letGo();
        Due.is("behind four", x.line(0, 0, 0, 0, 0), 4);
        x.ship(0, 0);
        Due.is("of a new ship", x.line(0, 0, 0, 0, 0), 0);
    }

    private static void lineRefused() {
        Due.says("promise 7", "NONE if there is no ship, no such STONE or ROPE (kind is ROPE * 100 and AGE), it can't be, or 6 came.");
        Due.is("no PORT", new QuayRopes().line(0, 0, 0, 0, 0), NONE);
        Due.is("no ship", Due.port(TEXT).line(0, 0, 0, 0, 0), NONE);
        QuayRopes x = Due.ship(TEXT, 0, 0);
        for (int stone : new int[] {-1, 3, 4, 7, 8, MIN, MAX}) Due.is("STONE " + stone, x.line(0, 0, stone, 0, 0), NONE);
        for (int kind : new int[] {-1, -99, -100, -101, 200, 201, 299, 300, 400, MIN, MAX}) Due.is("kind " + kind, x.line(0, 0, 0, kind, 0), NONE);
        for (int n : new int[] {MIN, -1, MAX}) {
            Due.is("hour " + n, x.line(n, 0, 0, 0, 0), NONE);
            Due.is("HOLE " + n, x.line(0, n, 0, 0, 0), NONE);
            Due.is("SLACK " + n, x.line(0, 0, 0, 0, n), NONE);
            Due.is("all " + n, x.line(n, n, n, n, n), NONE);
        }
        Due.is("hour 100", x.line(100, 0, 0, 0, 0), NONE);
        Due.is("HOLE 81", x.line(0, 81, 0, 0, 0), NONE);
        Due.is("SLACK 21", x.line(0, 0, 0, 0, 21), NONE);
        Due.is("none came", x.count(4), 0);
        for (int kind : new int[] {0, 99, 100, 199}) {
            x.line(0, 0, 0, kind, 0);
            Due.is("ROPE of " + kind, x.of(0, 2), kind / 100);
            Due.is("AGE of " + kind, x.of(0, 4), kind % 100);
            x.letGo();
        }
        for (int i = 0; i < 6; i++) x.line(0, 0, 0, 0, i);
        for (int i = 0; i < 3; i++) Due.is("6 came", x.line(0, 0, 0, 0, 9), NONE);
        Due.is("the sixth stays", x.of(5, 3), 5);
        // the most that a PORT can have
        x = Due.ship("stone 1 1;stone 2 1;stone 3 1;stone 4 1;stone 5 1;stone 6 1;stone 7 1;stone 8 1;rope 1 1;rope 1 1;rope 1 1;rope 1 1;", 0, 0);
        Due.is("STONE 7 of ROPE 3 with AGE 99", x.line(0, 0, 7, 399, 0), 0);
        Due.is("STONE 8", x.line(0, 0, 8, 0, 0), NONE);
        Due.is("ROPE 4", x.line(0, 0, 0, 400, 0), NONE);
    }

    private static void mended() {
        Due.says("promise 8", "A LINE is made fast anew in an hour, to the same STONE, with a SLACK (the same, too): true;");
        QuayRopes x = Due.ship(TEXT, 20, 10);
        for (int i = 0; i < 6; i++) x.line(0, 30, 2, 107, 4);
        int[][] can = {{0, 0, 0}, {5, 99, 20}, {3, 0, 20}, {2, 99, 0}, {0, 6, 4}, {1, 0, 4}};
        int[] waters = {0, 2, 0, 2, 6, 0};
        for (int i = 0; i < can.length; i++) {
            Due.is("mend", x.mend(can[i][0], can[i][1], can[i][2]), true);
            int[] want = {30, 2, 1, can[i][2], 7, 149 + 5 + 10 - waters[i] + can[i][2]};
            for (int what = 0; what < 6; what++) Due.is("of(" + can[i][0] + ", " + what + ")", x.of(can[i][0], what), want[what]);
        }
        Due.is("another LINE stays", x.of(4, 5), 149 + 5 + 10 + 4);
        Due.is("LINES", x.count(4), 6);
    }

    private static void mendRefused() {
        Due.says("promise 8", "false if there is none such, or it can't be.");
        Due.is("no PORT", new QuayRopes().mend(0, 0, 0), false);
        QuayRopes x = Due.port(TEXT);
        Due.is("no ship", x.mend(0, 0, 0), false);
        x.ship(20, 10);
        Due.is("no LINES", x.mend(0, 0, 0), false);
        x.line(6, 30, 0, 0, 4);
        x.line(6, 30, 0, 0, 4);
        x.letGo();
        int[][] cant = {{1, 0, 0}, {-1, 0, 0}, {2, 0, 0}, {6, 0, 0}, {MIN, 0, 0}, {MAX, 0, 0}, {0, -1, 0}, {0, 100, 0}, {0, MIN, 0}, {0, MAX, 0},
            {0, 0, -1}, {0, 0, 21}, {0, 0, MIN}, {0, 0, MAX}, {MIN, MIN, MIN}, {MAX, MAX, MAX}};
        for (int[] c : cant) {
            Due.is("mend(" + c[0] + ", " + c[1] + ", " + c[2] + ")", x.mend(c[0], c[1], c[2]), false);
            Due.is("LAID", x.of(0, 5), 0 + 5 + 4 + 4);
        }
    }

    private static void letGo() {
        Due.says("promise 9", "The last LINE is let go: how many there are;");
        QuayRopes x = Due.ship(TEXT, 0, 0);
        for (int i = 0; i < 6; i++) x.line(0, i, 0, 0, 0);
        for (int i = 5; i >= 0; i--) {
            Due.is("letGo()", x.letGo(), i);
            Due.is("count(4)", x.count(4), i);
            Due.is("it is gone", x.of(i, 0), NONE);
            if (i > 0) Due.is("the one ahead stays", x.of(i - 1, 0), i - 1);
        }
    }

    private static void letGoWithout() {
        Due.says("promise 9", "NONE without.");
        Due.is("no PORT", new QuayRopes().letGo(), NONE);
        QuayRopes x = Due.port(TEXT);
        Due.is("no ship", x.letGo(), NONE);
        x.ship(0, 0);
        Due.is("no LINES", x.letGo(), NONE);
        x.line(0, 0, 0, 0, 0);
        x.letGo();
        Due.is("no LINES any more", x.letGo(), NONE);
        Due.is("count(4)", x.count(4), 0);
    }

    private static void ofALine() {
        Due.says("promise 10", "Of a LINE: 0 its HOLE, 1 STONE, 2 ROPE, 3 SLACK, 4 AGE, 5 LAID.");
        QuayRopes x = Due.ship(TEXT, 20, 5);
        // the WATER is 9 in hour 22
        x.line(22, 40, 1, 123, 3);
        x.line(0, 80, 2, 0, 20);
        int[][] want = {{40, 1, 1, 3, 23, 60 + 5 + 4 + 3}, {80, 2, 0, 20, 0, 99 + 5 + 5 + 20}};
        for (int line = 0; line < 2; line++) {
            for (int what = 0; what < 6; what++) Due.is("of(" + line + ", " + what + ")", x.of(line, what), want[line][what]);
        }
    }

    private static void ofOthers() {
        Due.says("promise 10", "NONE for others, or if there is none such.");
        Due.is("no PORT", new QuayRopes().of(0, 0), NONE);
        QuayRopes x = Due.port(TEXT);
        Due.is("no ship", x.of(0, 0), NONE);
        x.ship(20, 5);
        Due.is("no LINES", x.of(0, 0), NONE);
        for (int i = 0; i < 6; i++) x.line(0, 1, 1, 101, 1);
        for (int what : new int[] {-1, 6, 7, MIN, MIN + 5, MAX}) Due.is("of(0, " + what + ")", x.of(0, what), NONE);
        for (int line : new int[] {-1, 6, 7, MIN, MAX}) {
            for (int what = -1; what <= 6; what++) Due.is("of(" + line + ", " + what + ")", x.of(line, what), NONE);
        }
        x.letGo();
        for (int what = -1; what <= 6; what++) Due.is("of(5, " + what + ") when it is let go", x.of(5, what), NONE);
    }

    private static void imageComes() {
        Due.says("promise 38", "An IMAGE comes: true;");
        QuayRopes x = Due.ship(TEXT, 20, 5);
        for (int k = 2; k >= 0; k--) Due.is("image(" + k + ") without LINES", x.image(k), true);
        x.line(0, 9, 0, 0, 0);
        Due.is("image(1) in place of the one ahead", x.image(1), true);
        Due.is("the ship stays", x.of(0, 0), 9);
        int[] lines = {0, 1, 0};
        for (int k = 0; k < 3; k++) {
            x.back(k);
            Due.is("LINES of image " + k, x.count(4), lines[k]);
        }
        // one that is gone back to stays
        x.ship(0, 0);
        Due.is("back(1) again", x.back(1), true);
        Due.is("HOLE", x.of(0, 0), 9);
    }

    private static void imageRefused() {
        Due.says("promise 38", "false without a ship, or if there is no such number.");
        QuayRopes x = new QuayRopes();
        for (int k = 0; k < 3; k++) Due.is("no PORT: image(" + k + ")", x.image(k), false);
        Due.portAnew(x, TEXT);
        for (int k = 0; k < 3; k++) Due.is("no ship: image(" + k + ")", x.image(k), false);
        for (int k = 0; k < 3; k++) Due.is("none came: back(" + k + ")", x.back(k), false);
        x.ship(20, 5);
        for (int k : new int[] {-1, 3, 4, MIN, MAX}) {
            Due.is("image(" + k + ")", x.image(k), false);
            Due.is("back(" + k + ")", x.back(k), false);
        }
        for (int k = 0; k < 3; k++) Due.is("none came: back(" + k + ")", x.back(k), false);
    }

    private static void goneBackTo() {
        Due.says("promise 39", "An IMAGE is gone back to: true;");
        QuayRopes x = Due.ship(TEXT, 20, 5);
        for (int i = 0; i < 6; i++) x.line(i, i, 0, 0, i);
        x.image(0);
        x.ship(100, 20);
        Due.is("back(0)", x.back(0), true);
        Due.is("LINES", x.count(4), 6);
        for (int i = 0; i < 6; i++) Due.is("of(" + i + ", 0)", x.of(i, 0), i);
        Due.is("no seventh", x.line(0, 0, 0, 0, 0), NONE);
        // a new ship, CALLS and the LOG are none of the image's
        x.weather(0, 0, 0);
        x.ship(0, 0);
        Due.is("back(0) from a new ship", x.back(0), true);
        Due.is("the LOG stays", x.count(11), 1);
        Due.is("back(0) again", x.back(0), true);
    }

    private static void backRefused() {
        Due.says("promise 39", "false if there is none.");
        Due.is("no PORT", new QuayRopes().back(0), false);
        QuayRopes x = Due.ship(TEXT, 20, 5);
        for (int k = 0; k < 3; k++) Due.is("back(" + k + ") without one", x.back(k), false);
        x.line(0, 9, 0, 0, 0);
        x.image(1);
        x.letGo();
        for (int k : new int[] {0, 2, -1, 3, MIN, MAX}) {
            Due.is("back(" + k + ")", x.back(k), false);
            Due.is("the ship stays", x.count(4), 0);
        }
        // a new PORT has none
        Due.portAnew(x, TEXT);
        Due.is("back(1) in a new PORT", x.back(1), false);
        x.ship(0, 0);
        Due.is("back(1) of a new ship", x.back(1), false);
        x.image(0);
        Due.is("back(1)", x.back(1), false);
        Due.is("back(0)", x.back(0), true);
    }
}
