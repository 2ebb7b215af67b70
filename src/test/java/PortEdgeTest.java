import java.util.ArrayList;
import java.util.Collections;
import java.util.List;

/** The edges that section 1 of the document and promises 1 to 5 and 40 name, a sentence at a time. */
public final class PortEdgeTest {
    private static final int NONE = QuayRopes.NONE;
    private static final int MIN = Integer.MIN_VALUE;
    private static final int MAX = Integer.MAX_VALUE;
    private static final String LEAST = "stone 7 7;rope 7 7;";
    private static final String[] ALL = {"stone 8 5;", "rope 5 5;", "deep 0 5 5;", "tide 0 1 2 3 4 5;", "gang 5 5;", "tugs 0;", "pay 0 0 0;"};
    private static final int[] MOST = {8, 4, 4, 1, 4, 1, 1};

    public static void main(String[] args) {
        constants();
        atMost500Bytes();
        tokens();
        asLongAsCanBe();
        anyOrder();
        stones();
        ropes();
        stretches();
        tide();
        gangs();
        tugs();
        pay();
        firstTokenThatCantStand();
        alsoANumberThatCantBe();
        placeToldAlready();
        oneTooMany();
        byteThatBeginsNoToken();
        tooEarly();
        noStoneOrNoRope();
        faultWithout();
        takesThePlace();
        newObject();
        fed();
        moreThan500();
        ended();
        notSoMany();
        faultOfTheText();
        portOfTheText();
        portWithAFault();
        counted();
        countedOthers();
        Due.end();
    }

    private static void constants() {
        Due.says("terms 8", "The constants: `NONE = -1`: There is none. `VOID = -2147483648`: There is none of what may be below 0.");
        Due.is("NONE", QuayRopes.NONE, -1);
        Due.is("VOID", QuayRopes.VOID, -2147483648);
    }

    private static void atMost500Bytes() {
        Due.says("terms 1", "A PORT is a text of at most 500 bytes.");
        String blanks = " ".repeat(500 - LEAST.length());
        for (String text : new String[] {LEAST + blanks, blanks + LEAST, "stone 7 7;" + blanks + "rope 7 7;"}) {
            QuayRopes x = new QuayRopes();
            Due.feed(x, text);
            Due.is("count(7)", x.count(7), 500);
            Due.is("fault()", x.fault(), NONE);
            Due.is("port()", x.port(), 1);
        }
        Due.fault(blanks + LEAST.substring(0, 18) + "x", 499);
        Due.fault(blanks + LEAST.substring(0, 18) + " ", 500);
        Due.fault(LEAST + blanks.substring(1) + "\t", 499);
    }

    /** Each of the 256 bytes behind a word, behind a number, behind ; and ahead of all. */
    private static void tokens() {
        Due.says("terms 1", "TOKENS: words of small letters, numbers of digits, as long as can be, and ; with any blanks (32) and line ends (10) between.");
        for (char c = 0; c < 256; c++) {
            boolean letter = c >= 'a' && c <= 'z';
            boolean digit = c >= '0' && c <= '9';
            boolean between = c == 32 || c == 10;
            Due.fault("stone" + c + "5 1;rope 1 1;", letter ? 0 : digit || between ? NONE : 5);
            Due.fault("stone 5" + c + "1;rope 1 1;", digit ? 6 : between ? NONE : 7);
            Due.fault("stone 5 1;rope 1 1" + c + ";", digit || between ? NONE : c == ';' ? 19 : 18);
            Due.fault(LEAST + c, between ? NONE : 19);
            Due.fault(c + LEAST, between ? NONE : 0);
            Due.fault("stone 7 7;" + c + "rope 7 7;", between ? NONE : 10);
        }
        Due.fault("stone7 7;rope7 7;", NONE);
        Due.fault("\n \n\nstone\n\n7  \n 7\n;\n\n  rope \n7\n \n7   ; \n \n", NONE);
    }

    private static void asLongAsCanBe() {
        Due.says("terms 1", "as long as can be,");
        Due.fault("stones 7 7;rope 7 7;", 0);
        Due.fault("ropestone 7 7;", 0);
        Due.fault(LEAST + "tugstugs 1;", 19);
        Due.fault("ston e 7 7;", 0);
        for (String one : ALL) {
            // a word with one letter that is another, one more or one less is another word
            String word = one.substring(0, one.indexOf(' '));
            String numbers = one.substring(word.length());
            for (int i = 0; i <= word.length(); i++) {
                String ahead = word.substring(0, i);
                Due.fault(LEAST + ahead + "z" + word.substring(i) + numbers, LEAST.length());
                if (i == word.length()) continue;
                Due.fault(LEAST + ahead + "z" + word.substring(i + 1) + numbers, LEAST.length());
                Due.fault(LEAST + ahead + word.substring(i + 1) + numbers, LEAST.length());
            }
        }
        Due.fault("stone 19 9;rope 7 7;", NONE);
        Due.fault("stone 199;rope 7 7;", 9);
        Due.fault("stone 1 9 9;rope 7 7;", 10);
        Due.fault("stone " + "0".repeat(400) + "199 1;rope 1 1;", NONE);
        Due.fault("stone " + "0".repeat(400) + "200 1;rope 1 1;", 6);
        Due.fault("stone 1" + "0".repeat(400) + " 1;rope 1 1;", 6);
        Due.fault("stone " + "9".repeat(490), 6);
        Due.fault("s".repeat(500), 0);
    }

    private static void anyOrder() {
        Due.says("terms 1", "It is any number of, in any order:");
        List<String> parts = new ArrayList<>(List.of(ALL));
        for (int i = 0; i < ALL.length; i++) {
            Due.fault(String.join("", parts), NONE);
            Collections.reverse(parts);
            Due.fault(String.join("\n", parts), NONE);
            Collections.reverse(parts);
            Collections.rotate(parts, 1);
        }
        Due.fault("stone 1 1;rope 1 1;", NONE);
        Due.fault("rope 1 1;rope 1 1;stone 9 9;tugs 1;rope 1 1;stone 1 1;pay 1 1 1;stone 5 5;", NONE);
        // as many as can be of each, kind by kind and turn by turn
        Due.fault(full(), NONE);
        StringBuilder mixed = new StringBuilder();
        for (int i = 0; i < 8; i++) {
            for (int kind = ALL.length - 1; kind >= 0; kind--) {
                if (i < MOST[kind]) mixed.append(ALL[kind].replace("8", "" + i));
            }
        }
        Due.fault(mixed.toString(), NONE);
        parts.clear();
        parts.addAll(List.of("pay 97 98 99;", "tugs 6;", "tide 1 2 3 4 5 6;"));
        for (int i = 0; i < 8; i++) parts.add("stone " + (i * 20 + 15) + " " + (i + 1) + ";");
        for (int i = 0; i < 4; i++) parts.add("rope " + (980 + i) + " " + (17 + i) + ";");
        for (int i = 0; i < 4; i++) parts.add("deep " + 40 * i + " " + (40 * i + 40) + " " + (31 + i) + ";");
        for (int i = 0; i < 4; i++) parts.add("gang " + (11 + i) + " " + (101 + i) + ";");
        eachNumberIsItsOwn(String.join("", parts));
        // the once told behind the others, and those in the order of their numbers all the same
        Collections.rotate(parts, -3);
        eachNumberIsItsOwn(String.join("", parts));
        Collections.rotate(parts, 7);
        eachNumberIsItsOwn(String.join("", parts));
    }

    /** With all that a PORT can have. */
    private static void eachNumberIsItsOwn(String text) {
        QuayRopes x = Due.port(text);
        int[] counts = {8, 4, 4, 6, 0, 0, 0, 0, 4};
        for (int what = 0; what < counts.length; what++) Due.is("count(" + what + ")", x.count(what), counts[what]);
        for (int i = 0; i < 12; i++) {
            x.ship(0, 0);
            x.line(i, 15, 0, 0, 0);
            Due.is("WATER in hour " + i, x.of(0, 5), 5 + i / 2 + 1);
        }
        for (int i = 0; i < 8; i++) {
            // a breast of K 17 to each STONE, in a WIND that stretches it by 1
            x.ship(i * 20 + 15, 0);
            x.line(0, 0, i, 0, 0);
            Due.is("STONE " + i, x.goes(0, 17, 0, 0), 10 + i);
            Due.is("its place", x.of(0, 5), 6);
        }
        for (int i = 0; i < 4; i++) {
            Due.is("DEPTH", x.depth(40 * i + 5), 31 + i);
            x.ship(15, 0);
            x.line(0, 0, 0, i * 100, 0);
            Due.is("K of ROPE " + i, x.pull(0, 17 + i, 0, 0), 17 + i);
            x.weather(0, 999, 0);
            Due.is("R of ROPE " + i, x.blame(0, 0), 20000 * (17 + i) / (980 + i));
        }
        for (int i = 0; i < 4; i++) Due.is("call", x.call(0, 11 + i, 106), i);
        int row = 0 + 4 + 32 + 192;
        Due.is("men", x.least(), row);
        Due.is("TUGS", x.met(row, 2), 10 + 20 + 30);
        Due.is("PAY", x.pay(row, 3), 97 + 2 * 98 + 99);
        for (int i = 0; i < 4; i++) Due.is("SLEEP of GANG " + i, sleepOf(text, i), 101 + i);
    }

    private static int sleepOf(String text, int gang) {
        QuayRopes x = Due.port(text);
        x.call(0, 11, 10);
        x.call(0, 11, 10);
        return x.met(gang * 5, 11) - 1;
    }

    /** A text with as many of each kind as can be. */
    private static String full() {
        StringBuilder text = new StringBuilder();
        for (int kind = 0; kind < ALL.length; kind++) {
            for (int i = 0; i < MOST[kind]; i++) text.append(ALL[kind].replace("8", "" + (191 + i)));
        }
        return text.toString();
    }

    private static void stones() {
        Due.says("terms 1", "stone X P ; (at most 8 STONES, numbers as they come: a place X 0 .. 199 on the quay, unlike, and the pull P 1 .. 999 that it bears)");
        Due.limit(LEAST + "stone # 5;", 0, 199);
        Due.limit(LEAST + "stone 5 #;", 1, 999);
        int[] places = {199, 0, 5, 198, 1, 100, 99, 7};
        StringBuilder text = new StringBuilder("rope 999 20;rope 999 11;rope 999 1;");
        for (int i = 0; i < 8; i++) {
            text.append("stone ").append(places[i]).append(' ').append(i == 7 ? 999 : i + 1).append(';');
            Due.is("STONES", Due.port(text.toString()).count(0), i + 1);
        }
        Due.fault(text + "stone 50 1;", text.length());
        QuayRopes x = Due.port(text.toString());
        for (int i = 0; i < 8; i++) {
            x.ship(0, 0);
            x.line(0, 0, i, 0, 0);
            Due.is("STONE " + i + "'s place", x.of(0, 5), places[i] + 5);
            x.ship(places[i], 0);
            x.line(0, 0, i, 200, 0);
            // a breast of K 1 pulls what the WIND is, up to 20
            Due.is("STONE " + i + " bears", x.held(0, 0), i == 7 ? 999 : i + 1);
        }
        for (int p = 998; p <= 999; p++) {
            // 111 times v 9 are 999
            x = Due.ship("stone 50 " + p + ";rope 999 20;rope 999 11;", 50, 0);
            for (int i = 0; i < 6; i++) x.line(0, 0, 0, i < 5 ? 0 : 100, 0);
            Due.is("P " + p, x.goes(0, 999, 0, NONE), 999 - p);
        }
    }

    private static void ropes() {
        Due.says("terms 1", "rope R K ; (at most 4 ROPES, numbers as they come: R 1 .. 999 what it bears, K 1 .. 20 how hard it pulls)");
        Due.limit(LEAST + "rope # 5;", 1, 999);
        Due.limit(LEAST + "rope 5 #;", 1, 20);
        int[] bears = {999, 1, 998, 3};
        int[] pulls = {20, 1, 20, 2};
        StringBuilder text = new StringBuilder("stone 50 999;tide 9 0 0 0 0 0;");
        for (int i = 0; i < 4; i++) {
            text.append("rope ").append(bears[i]).append(' ').append(pulls[i]).append(';');
            Due.is("ROPES", Due.port(text.toString()).count(1), i + 1);
        }
        Due.fault(text + "rope 1 1;", text.length());
        // laid with the WATER's 9 a LINE is 29 too short, as far off as can be: 20 times that is 580
        int[] loads = {580580 / 1000, 29000, 581, 58000 / 3};
        for (int i = 0; i < 4; i++) {
            QuayRopes x = Due.ship(text.toString(), 50, 9);
            x.line(0, 0, 0, i * 100, 0);
            x.weather(2, 999, 0);
            Due.is("PULL of ROPE " + i, x.pull(2, 999, 0, 0), 29 * pulls[i]);
            Due.is("LOAD of ROPE " + i, x.blame(0, 0), loads[i]);
        }
    }

    private static void stretches() {
        Due.says("terms 1", "deep X Y D ; (at most 4 STRETCHES: from X to Y, 0 .. 200, Y greater; DEPTH D 0 .. 40)");
        Due.limit(LEAST + "deep 0 5 #;", 0, 40);
        Due.limit(LEAST + "deep 0 # 5;", 1, 200);
        Due.fault(LEAST + "deep 199 200 5;", NONE);
        Due.fault(LEAST + "deep 201 202 5;", 24);
        // 200 can be, but then no end is greater
        Due.fault(LEAST + "deep 200 200 5;", 28);
        Due.fault(LEAST + "deep 200 201 5;", 28);
        Due.fault(LEAST + "deep 10 11 5;", NONE);
        Due.fault(LEAST + "deep 10 10 5;", 27);
        Due.fault(LEAST + "deep 10 9 5;", 27);
        Due.fault(LEAST + "deep 100 20 5;", 28);
        // Y must be greater than the X of its own STRETCH
        Due.fault(LEAST + "deep 50 60 5;deep 10 20 5;deep 70 80 5;deep 80 80 5;", 66);
        StringBuilder text = new StringBuilder(LEAST);
        for (int i = 0; i < 4; i++) {
            text.append("deep ").append(50 * i).append(' ').append(50 * i + 50).append(' ').append(i == 0 ? 40 : i == 1 ? 0 : i).append(';');
            Due.is("STRETCHES", Due.port(text.toString()).count(8), i + 1);
        }
        Due.fault(text + "deep 0 1 1;", text.length());
        QuayRopes x = Due.port(text.toString());
        int[] want = {40, 0, 2, 3};
        for (int i = 0; i < 4; i++) Due.is("depth(" + (50 * i + 25) + ")", x.depth(50 * i + 25), want[i]);
    }

    private static void tide() {
        Due.says("terms 1", "tide A B C D E F ; (once; 0 .. 9 each: the WATER in hours 0 and 1, 2 and 3, .. of each 12; 0 without)");
        for (int i = 0; i < 6; i++) Due.limit(LEAST + "tide 1 1 1 1 1 1;".replaceFirst("(( 1){" + i + "}) 1", "$1 #"), 0, 9);
        Due.fault(LEAST + "tide 0 0 0 0 0 0;tide 0 0 0 0 0 0;", 36);
        int[] waters = {9, 0, 1, 8, 2, 7};
        QuayRopes x = Due.ship("stone 50 1;rope 1 1;tide 9 0 1 8 2 7;", 50, 0);
        x.line(0, 0, 0, 0, 0);
        for (int hour = 0; hour < 100; hour++) {
            x.mend(0, hour, 0);
            Due.is("LAID in hour " + hour, x.of(0, 5), 5 + waters[hour % 12 / 2]);
        }
        // up to hour 247, that behind the last one in which a VISIT lies
        x = Due.port("stone 50 1;rope 1 1;tide 9 0 1 8 2 7;");
        x.visit(1009, 48);
        for (int hour = 100; hour < 200; hour++) {
            int want = waters[hour % 12 / 2] < 10 ? 3 : 0;
            Due.is("fits(0, 0, " + hour + ")", x.fits(0, 0, hour), want);
        }
        x.visit(1008, 47);
        for (int hour = 100; hour < 200; hour++) {
            int want = waters[hour % 12 / 2] < 9 ? 3 : waters[(hour + 47) % 12 / 2] < 9 ? 4 : 0;
            Due.is("fits(1, 0, " + hour + ")", x.fits(1, 0, hour), want);
        }
        x = Due.ship(LEAST, 7, 0);
        x.line(0, 0, 0, 0, 0);
        for (int hour = 0; hour < 100; hour += 9) {
            x.mend(0, hour, 0);
            Due.is("LAID without a tide", x.of(0, 5), 5);
        }
    }

    private static void gangs() {
        Due.says("terms 1", "gang N S ; (at most 4 GANGS, numbers as they come: N 1 .. 20 men, S 0 .. 600 minutes of SLEEP behind a call)");
        Due.limit(LEAST + "gang # 0;", 1, 20);
        Due.limit(LEAST + "gang 1 #;", 0, 600);
        int[] men = {20, 1, 19, 2};
        int[] sleeps = {600, 0, 599, 1};
        StringBuilder text = new StringBuilder("tugs 6;pay 7 0 0;" + LEAST);
        for (int i = 0; i < 4; i++) {
            text.append("gang ").append(men[i]).append(' ').append(sleeps[i]).append(';');
            Due.is("GANGS", Due.port(text.toString()).count(2), i + 1);
        }
        Due.fault(text + "gang 1 1;", text.length());
        for (int i = 0; i < 4; i++) {
            QuayRopes x = Due.port(text.toString());
            x.call(0, men[i], 10);
            Due.is("men of GANG " + i, x.met(i, 0), 0);
            x.call(0, 1, 10);
            Due.is("SLEEP of GANG " + i, x.met(i * 5, 11), 1 + sleeps[i]);
            Due.is("TUGS", x.count(3), 6);
            Due.is("pay", x.pay(i * 5, i), 14);
            if (men[i] == 20) continue;
            x = Due.port(text.toString());
            x.call(0, men[i] + 1, 10);
            Due.is("not so many men in GANG " + i, x.met(i, 0), NONE);
        }
    }

    private static void tugs() {
        Due.says("terms 1", "tugs N ; (once; 0 .. 6; 0 without)");
        Due.limit(LEAST + "tugs #;", 0, 6);
        Due.fault(LEAST + "tugs 0;tugs 0;", 26);
        for (int n = 0; n <= 6; n++) {
            QuayRopes x = Due.port(LEAST + "gang 1 0;tugs " + n + ";");
            Due.is("count(3)", x.count(3), n);
            x.call(0, 1, 10 + n);
            Due.is("so many TUGS", x.met(0, 0), 0);
            x = Due.port(LEAST + "tugs " + n + ";gang 1 0;");
            x.call(0, 1, 10 + Math.min(6, n + 1));
            Due.is("one more", x.met(0, 0), n < 6 ? NONE : 0);
        }
        QuayRopes x = Due.port(LEAST + "gang 1 0;");
        Due.is("count(3) without", x.count(3), 0);
        x.call(0, 1, 11);
        Due.is("a TUG without", x.met(0, 0), NONE);
    }

    private static void pay() {
        Due.says("terms 1", "pay A B C ; (once; 0 .. 99 each, 0 without)");
        Due.limit(LEAST + "pay # 0 0;", 0, 99);
        Due.limit(LEAST + "pay 0 # 0;", 0, 99);
        Due.limit(LEAST + "pay 0 0 #;", 0, 99);
        Due.fault(LEAST + "pay 0 0 0;pay 0 0 0;", 29);
        String[] wages = {"pay 99 0 0;", "pay 0 99 0;", "pay 0 0 99;", "pay 0 0 0;", "pay 3 2 1;", ""};
        // two CALLS of 10 minutes, the second WAITED 5: a quarter; each within an hour of the first 360
        int[] want = {198, 99, 198, 0, 6 + 2 + 2, 0};
        for (int i = 0; i < wages.length; i++) {
            QuayRopes x = Due.port(LEAST + wages[i] + "gang 1 0;");
            x.call(0, 1, 100);
            x.call(5, 1, 100);
            Due.is("PAY with '" + wages[i] + "'", x.pay(0, 0), want[i]);
        }
    }

    private static void firstTokenThatCantStand() {
        Due.says("terms 1", "The FAULT is the place (from 0 on) of the first byte of the first TOKEN that can't stand there");
        Due.fault("x", 0);
        Due.fault("7", 0);
        Due.fault(";", 0);
        Due.fault(" \n 777", 3);
        Due.fault(LEAST + "7", 19);
        Due.fault(LEAST + ";", 19);
        Due.fault(LEAST + " boat 7 7; 7", 20);
        // a word where a number is due, a number or a word where ; is, ; where a number is
        for (String one : ALL) {
            int numbers = one.split(" ").length - 1;
            String text = LEAST + one.substring(0, one.indexOf(' '));
            for (int i = 0; i < numbers; i++) {
                Due.fault(text + " stone", text.length() + 1);
                Due.fault(text + "  ; stone", text.length() + 2);
                text += i == 0 ? " 5" : " 6";
                if (one.startsWith("pay") || one.startsWith("tide")) Due.fault(text + "\n;", i == numbers - 1 ? NONE : text.length() + 1);
            }
            Due.fault(text + " 6 ;", text.length() + 1);
            Due.fault(text + " stone ;", text.length() + 1);
            Due.fault(text + " ; ;", text.length() + 3);
        }
        Due.fault("stone x y;", 6);
        Due.fault("stone 300 y;", 6);
    }

    private static void alsoANumberThatCantBe() {
        Due.says("terms 1", "(also: a number that can't be,");
        Due.fault("stone 200 1;", 6);
        Due.fault("stone 200", 6);
        Due.fault("stone 20 0", 9);
        Due.fault("stone 20 0000", 9);
        Due.fault("stone 20 1000;", 9);
        Due.fault("stone 200 1000;", 6);
        Due.fault("rope 0 0;", 5);
        Due.fault("rope 1 0;", 7);
        Due.fault("rope 1 21;", 7);
    }

    private static void placeToldAlready() {
        Due.says("terms 1", "a STONE's place that is told already;");
        Due.fault("rope 1 1;stone 0 1;stone 0 1;", 25);
        Due.fault("rope 1 1;stone 199 1;stone 000199 2;", 27);
        Due.fault("rope 1 1;stone 5 1;stone 5", 25);
        Due.fault("rope 1 1;stone 5 5;stone 1 5;stone 6 6;", NONE);
        StringBuilder text = new StringBuilder("rope 1 1;");
        for (int i = 0; i < 7; i++) text.append("stone ").append(10 + i).append(" 5;");
        for (int i = 0; i < 7; i++) Due.fault(text + "stone " + (10 + i) + " 5;", text.length() + 6);
        Due.fault(text + "stone 17 5;", NONE);
        // told by the PORT ahead it is not told already
        QuayRopes x = Due.port(LEAST);
        Due.portAnew(x, LEAST);
        Due.feed(x, LEAST);
        Due.is("fault()", x.fault(), NONE);
        Due.is("fault() again", x.fault(), NONE);
    }

    private static void oneTooMany() {
        Due.says("terms 1", "a 9th STONE, 5th ROPE, STRETCH or GANG, second tide, tugs or pay at its first word)");
        String[] more = {"stone 9 9;", "rope 9 9;", "deep 0 9 9;", "tide 9 9 9 9 9 9;", "gang 9 9;", "tugs 1;", "pay 9 9 9;"};
        for (int kind = 0; kind < more.length; kind++) {
            StringBuilder text = new StringBuilder(kind > 1 ? LEAST : kind == 1 ? "stone 7 7;" : "rope 7 7;");
            for (int i = 0; i < MOST[kind]; i++) text.append(kind == 0 ? "stone " + (10 + i) + " 5;" : more[kind]);
            Due.fault(text.toString(), NONE);
            Due.fault(text + "\n" + more[kind], text.length() + 1);
            Due.fault(text + more[kind].substring(0, more[kind].indexOf(' ')), text.length());
            Due.fault(text + more[kind].substring(0, more[kind].indexOf(' ')) + " boat", text.length());
            Due.fault(full() + more[kind], full().length());
        }
    }

    private static void byteThatBeginsNoToken() {
        Due.says("terms 1", ", or of a byte that begins no TOKEN, if that is ahead;");
        Due.fault("$", 0);
        Due.fault(LEAST + "$", 19);
        Due.fault("stone $", 6);
        Due.fault("stone$", 5);
        Due.fault("stone 5$", 7);
        Due.fault("stone 5 5 $", 10);
        Due.fault("stone $ x", 6);
        // the TOKEN that can't stand is ahead
        Due.fault("boat $", 0);
        Due.fault("boat$", 0);
        Due.fault("stone x $", 6);
        Due.fault("stone 200$", 6);
        Due.fault("stone 5 0$", 8);
        Due.fault(LEAST + "; $", 19);
        // and the text is not too early at its end then
        Due.fault("stone 5 $", 8);
        Due.fault("\t", 0);
        Due.fault("stone 5 5;\t", 10);
        Due.fault("stone 5 5;rope 1 1 -", 19);
    }

    private static void tooEarly() {
        Due.says("terms 1", "the length, if it ends too early,");
        for (String one : ALL) {
            int word = one.indexOf(' ');
            for (int n = word; n < one.length(); n++) {
                Due.fault(LEAST + one.substring(0, n), LEAST.length() + n);
                Due.fault(LEAST + one.substring(0, n) + " \n", LEAST.length() + n + 2);
            }
            // a word that is not yet whole is a TOKEN that can't stand
            for (int n = 1; n < word; n++) Due.fault(LEAST + one.substring(0, n), LEAST.length());
        }
    }

    private static void noStoneOrNoRope() {
        Due.says("terms 1", "or has no STONE or no ROPE;");
        Due.fault("", 0);
        Due.fault(" ", 1);
        Due.fault("\n\n\n", 3);
        Due.fault("stone 7 7;", 10);
        Due.fault("stone 7 7; ", 11);
        Due.fault("rope 7 7;", 9);
        Due.fault("rope 7 7;rope 7 7;gang 7 7;tugs 1;", 34);
        Due.fault("deep 0 1 1;tide 0 0 0 0 0 0;gang 7 7;tugs 1;pay 0 0 0;", 54);
        Due.fault(String.join("", ALL).substring(10), String.join("", ALL).length() - 10);
        // the one that the PORT ahead had is not this one's
        QuayRopes x = Due.port(LEAST);
        Due.feed(x, "rope 7 7;");
        Due.is("fault()", x.fault(), 9);
        Due.feed(x, "stone 7 7;");
        Due.is("fault()", x.fault(), 10);
        Due.is("port()", x.port(), NONE);
    }

    private static void faultWithout() {
        Due.says("terms 1", "NONE without.");
        Due.fault(LEAST, NONE);
        Due.fault(full(), NONE);
    }

    private static void takesThePlace() {
        Due.says("terms 1", "A PORT without one takes the place of the one ahead: no ship, no LINES, CALLS, RINGS, VISITS, TASKS, no LOG, no images.");
        String[] texts = {LEAST + "gang 9 9;gang 9 9;tugs 3;tide 9 9 9 9 9 9;deep 0 200 40;pay 9 9 9;", LEAST + "gang 9 9;gang 9 9;"};
        // the one ahead is another one, and then the same
        int[] order = {1, 1, 0, 0};
        QuayRopes x = Due.port(texts[0]);
        for (int i = 0; i < 4; i++) {
            x.ship(7, 0);
            for (int k = 0; k < 6; k++) x.line(0, 0, 0, 0, 0);
            for (int k = 0; k < 3; k++) x.image(k);
            for (int k = 0; k < 6; k++) x.call(0, 1, 10);
            for (int k = 0; k < 20; k++) x.ring(3, 1);
            for (int k = 0; k < 5; k++) x.visit(1001, 1);
            for (int k = 0; k < 6; k++) x.task(200, 0, 99);
            for (int k = 0; k < 12; k++) x.weather(0, 0, 0);
            x.lay(0, 0, 0);
            for (int what = 4; what <= 11; what++) if (what != 7 && what != 8) Due.is("count(" + what + ")", x.count(what) > 0, true);
            boolean poor = order[i] == 1;
            Due.portAnew(x, texts[order[i]]);
            for (int what = 4; what <= 11; what++) Due.is("anew, count(" + what + ")", x.count(what), what == 8 && !poor ? 1 : 0);
            Due.is("no ship", x.rests(0, 0, 0, 0), QuayRopes.VOID);
            Due.is("no ship", x.image(0), false);
            Due.is("no ship", x.line(0, 0, 0, 0, 0), NONE);
            for (int k = 0; k < 3; k++) Due.is("no images", x.back(k), false);
            Due.is("no CALLS", x.least(), 0);
            Due.is("no RINGS", x.turn(3), 0);
            Due.is("no VISITS", x.plan(NONE), 0);
            Due.is("no TASKS", x.storm(1, NONE), 0);
            x.ship(7, 0);
            Due.is("no LINES", x.letGo(), NONE);
            x.line(0, 0, 0, 0, 0);
            Due.is("no LOG", x.blame(0, 0), NONE);
            Due.is("WATER", x.of(0, 5), poor ? 5 : 14);
            Due.is("DEPTH", x.depth(100), poor ? 0 : 40);
            Due.is("TUGS", x.count(3), poor ? 0 : 3);
            x.call(0, 1, 10);
            Due.is("PAY", x.pay(0, 0), poor ? 0 : 18);
        }
    }

    private static void newObject() {
        Due.says("promise 1", "No PORT.");
        QuayRopes x = new QuayRopes();
        for (int what = 0; what <= 11; what++) Due.is("count(" + what + ")", x.count(what), 0);
        Due.is("fault()", x.fault(), 0);
        Due.is("port()", x.port(), NONE);
        Due.is("ship(0, 0)", x.ship(0, 0), false);
        Due.is("call(0, 1, 10)", x.call(0, 1, 10), NONE);
        Due.is("least()", x.least(), NONE);
        Due.is("turn(1)", x.turn(1), NONE);
        Due.is("depth(0)", x.depth(0), NONE);
        Due.is("visit(1001, 1)", x.visit(1001, 1), NONE);
        Due.is("task(1, 0, 1)", x.task(1, 0, 1), NONE);
        Due.is("weather(0, 0, 0)", x.weather(0, 0, 0), NONE);
        // two objects have nothing in common
        QuayRopes other = Due.port(LEAST);
        other.ship(0, 0);
        Due.is("another's PORT", x.ship(0, 0), false);
        Due.is("another's STONES", x.count(0), 0);
        Due.is("a new object's", new QuayRopes().count(0), 0);
    }

    private static void fed() {
        Due.says("promise 2", "Bytes come behind those of the text, of each number the highest first (20 of them): how many there are;");
        QuayRopes x = new QuayRopes();
        // "stone 7 7; rope 7 7;" byte by byte
        Due.is("feed", x.feed(0x73746f6e, 0x65203720, 0x373b2072, 0x6f706520, 0x3720373b), 20);
        Due.is("fault()", x.fault(), NONE);
        Due.is("feed", x.feed(0x20202020, 0x20202020, 0x0a202020, 0x20202020, 0x2020200a), 40);
        Due.is("fault()", x.fault(), NONE);
        for (int at = 0; at < 20; at++) {
            // a byte 255, which makes the number one below 0 if it is the highest
            x = new QuayRopes();
            Due.feed(x, LEAST);
            int[] n = {0x20202020, 0x20202020, 0x20202020, 0x20202020, 0x20202020};
            n[at / 4] |= 255 << 24 - at % 4 * 8;
            Due.is("feed behind 19", x.feed(n[0], n[1], n[2], n[3], n[4]), 39);
            Due.is("fault() of byte " + at, x.fault(), 19 + at);
        }
        x = new QuayRopes();
        for (int n = 1; n <= 25; n++) Due.is("feed", x.feed(MIN, MAX, -1, 0, n), 20 * n);
    }

    private static void moreThan500() {
        Due.says("promise 2", "NONE if there would be more than 500.");
        for (int length = 478; length <= 500; length++) {
            QuayRopes x = new QuayRopes();
            Due.feed(x, " ".repeat(length));
            boolean room = length <= 480;
            Due.is("feed at " + length, x.feed(0x24242424, 0x24242424, 0x24242424, 0x24242424, 0x24242424), room ? length + 20 : NONE);
            Due.is("bytes", x.count(7), room ? length + 20 : length);
            Due.is("fault()", x.fault(), length);
        }
    }

    private static void ended() {
        Due.says("promise 3", "The text has its first n bytes alone: true;");
        QuayRopes x = new QuayRopes();
        Due.is("end(0) of no text", x.end(0), true);
        Due.feed(x, LEAST + " x");
        Due.is("end(21), as long as it is", x.end(21), true);
        Due.is("fault()", x.fault(), 20);
        Due.is("end(20)", x.end(20), true);
        Due.is("fault()", x.fault(), NONE);
        Due.is("end(18)", x.end(18), true);
        Due.is("fault()", x.fault(), 18);
        Due.is("feed behind the first bytes", x.feed(0x3b202020, 0x20202020, 0x20202020, 0x20202020, 0x20202020), 38);
        Due.is("fault()", x.fault(), NONE);
        Due.is("end(0)", x.end(0), true);
        Due.is("count(7)", x.count(7), 0);
        x = new QuayRopes();
        for (int n = 0; n < 25; n++) x.feed(0, 0, 0, 0, 0);
        Due.is("end(500)", x.end(500), true);
        Due.is("count(7)", x.count(7), 500);
        Due.is("end(499)", x.end(499), true);
        Due.is("count(7)", x.count(7), 499);
    }

    private static void notSoMany() {
        Due.says("promise 3", "false if it has not so many, or n is below 0.");
        QuayRopes x = new QuayRopes();
        for (int n : new int[] {1, 2, 500, MAX, -1, -500, MIN}) Due.is("end(" + n + ") of no text", x.end(n), false);
        Due.feed(x, LEAST);
        for (int n : new int[] {20, 21, 499, 500, 501, MAX, -1, -19, MIN}) {
            Due.is("end(" + n + ")", x.end(n), false);
            Due.is("count(7)", x.count(7), 19);
        }
        // what was there ahead of the end is there no more
        x.end(10);
        Due.is("end(19)", x.end(19), false);
        Due.is("end(11)", x.end(11), false);
        Due.is("fault()", x.fault(), 10);
    }

    private static void faultOfTheText() {
        Due.says("promise 4", "The FAULT of the text.");
        QuayRopes x = Due.ship(LEAST, 7, 0);
        x.line(0, 0, 0, 0, 0);
        Due.feed(x, "stone 1 1;stone 2 2;rope 9 9;tide 9 9 9 9 9 9;x");
        Due.is("fault()", x.fault(), 46);
        x.end(46);
        Due.is("fault()", x.fault(), NONE);
        Due.is("fault() again", x.fault(), NONE);
        // it is told of the text alone: the PORT stays as it is
        Due.is("STONES", x.count(0), 1);
        Due.is("WATER", x.of(0, 5), 5);
        Due.is("the text", x.count(7), 46);
    }

    private static void portOfTheText() {
        Due.says("promise 5", "The PORT comes of the text, which is empty then: how many STONES;");
        StringBuilder text = new StringBuilder("rope 1 1;");
        QuayRopes x = new QuayRopes();
        for (int n = 1; n <= 8; n++) {
            text.append("stone ").append(n).append(" 1;");
            Due.feed(x, text.toString());
            Due.is("port()", x.port(), n);
            Due.is("count(0)", x.count(0), n);
            Due.is("count(7)", x.count(7), 0);
            Due.is("end(1)", x.end(1), false);
            Due.is("fault()", x.fault(), 0);
            Due.is("port() of no text", x.port(), NONE);
        }
        Due.is("feed", x.feed(0, 0, 0, 0, 0), 20);
    }

    private static void portWithAFault() {
        Due.says("promise 5", "NONE with a FAULT (the text and the PORT stay).");
        QuayRopes x = Due.ship(LEAST + "gang 5 0;tugs 2;deep 0 200 9;", 7, 3);
        x.line(0, 0, 0, 5, 2);
        String[] wrong = {"", "x", "stone 9 9;", "rope 1 1;", "stone 9 9;rope 9 9;tugs 1;tugs", "stone 9 9;rope 9 9;tide 9 9 9 9 9 9 ", "stone 9 9;rope 9 9;gang 0"};
        for (String text : wrong) {
            Due.feed(x, text);
            int fault = x.fault();
            Due.is("port()", x.port(), NONE);
            Due.is("count(7)", x.count(7), text.length());
            Due.is("fault()", x.fault(), fault);
            Due.is("count(0)", x.count(0), 1);
            Due.is("count(2)", x.count(2), 1);
            Due.is("count(3)", x.count(3), 2);
            Due.is("the ship's LINE", x.of(0, 5), 0 + 5 + 3 + 2);
            Due.is("depth(200)", x.depth(200), 9);
        }
        // the text that stayed can be mended
        x.end(19);
        Due.is("port()", x.port(), 1);
        Due.is("count(2)", x.count(2), 0);
    }

    private static void counted() {
        Due.says("promise 40", "0 STONES, 1 ROPES, 2 GANGS, 3 TUGS, 4 LINES, 5 CALLS, 6 RINGS, 7 bytes of the text, 8 STRETCHES, 9 VISITS, 10 TASKS, 11 rows of the LOG.");
        QuayRopes x = new QuayRopes();
        for (int what = 0; what <= 11; what++) Due.is("no PORT: count(" + what + ")", x.count(what), 0);
        Due.portAnew(x, LEAST);
        for (int what = 0; what <= 11; what++) Due.is("the least: count(" + what + ")", x.count(what), what < 2 ? 1 : 0);
        Due.portAnew(x, full().replace("tugs 0", "tugs 6"));
        x.ship(0, 0);
        for (int i = 0; i < 21; i++) {
            x.line(0, 0, 0, 0, 0);
            x.call(0, 1, 10);
            x.ring(15, 0);
            x.visit(1001, 1);
            x.task(1, 1, 1);
            x.weather(0, 0, 0);
            int n = i + 1;
            int[] want = {8, 4, 4, 6, Math.min(n, 6), Math.min(n, 6), Math.min(n, 20), 0, 4, Math.min(n, 5), Math.min(n, 6), Math.min(n, 12)};
            for (int what = 4; what <= 11; what++) Due.is("count(" + what + ")", x.count(what), want[what]);
            if (i > 19) for (int what = 0; what <= 3; what++) Due.is("as many as can be: count(" + what + ")", x.count(what), want[what]);
        }
        for (int n = 0; n < 26; n++) x.feed(0, 0, 0, 0, 0);
        Due.is("count(7)", x.count(7), 500);
        x.letGo();
        x.undo();
        x.end(3);
        Due.is("count(4)", x.count(4), 5);
        Due.is("count(6)", x.count(6), 19);
        Due.is("count(7)", x.count(7), 3);
        x.ship(0, 0);
        Due.is("count(4)", x.count(4), 0);
    }

    private static void countedOthers() {
        Due.says("promise 40", "NONE for others.");
        for (QuayRopes x : new QuayRopes[] {new QuayRopes(), Due.port(full())}) {
            for (int what : new int[] {-1, 12, 13, -12, 255, 256, 267, MIN, MIN + 11, MAX}) Due.is("count(" + what + ")", x.count(what), NONE);
        }
    }
}
