/**
 * The edges that section 2 of the document (ALONG, OFF, RESTS, OVER, HELD, MOVED, BEST) and promises 11 to 17
 * name. A 'breast' is a LINE whose HOLE is at its STONE's place: with K 1 it pulls |u| + v less its SLACK.
 */
public final class RestEdgeTest {
    private static final int NONE = QuayRopes.NONE;
    private static final int VOID = QuayRopes.VOID;
    private static final int MIN = Integer.MIN_VALUE;
    private static final int MAX = Integer.MAX_VALUE;
    private static final int[][] CANT = {{-1, 0, 0}, {100, 0, 0}, {0, -1, 0}, {0, 1000, 0}, {0, 0, -100}, {0, 0, 100}, {MIN, 0, 0}, {MAX, 0, 0},
        {0, MIN, 0}, {0, MAX, 0}, {0, 0, MIN}, {0, 0, MAX}, {MIN, MIN, MIN}, {MAX, MAX, MAX}};
    private static final int[][] CAN = {{0, 0, 0}, {99, 0, 0}, {0, 999, 0}, {0, 0, 99}, {0, 0, -99}, {99, 999, 99}, {99, 999, -99}};

    public static void main(String[] args) {
        along();
        off();
        leastSum();
        leastU();
        lesserU();
        leastV();
        overLine();
        overStone();
        overByMost();
        linesFirst();
        stoneTakesItsLines();
        restsAnew();
        held();
        heldNone();
        moved();
        bestLaid();
        bestLeast();
        bestFirst();
        bestOthersAreNotThere();
        restsTold();
        restsRefused();
        pullTold();
        pullRefused();
        goesTold();
        goesRefused();
        holdsTold();
        holdsRefused();
        heldTold();
        heldRefused();
        movedTold();
        movedRefused();
        bestTold();
        bestRefused();
        Due.end();
    }

    private static QuayRopes breasts(String ropes, int... kinds) {
        QuayRopes x = Due.ship("stone 50 999;" + ropes, 50, 0);
        for (int kind : kinds) x.line(0, 0, 0, kind, 0);
        return x;
    }

    private static void rests(QuayRopes x, int wind, int stream, int... want) {
        for (int k = 0; k < 4; k++) Due.is("rests(0, " + wind + ", " + stream + ", " + k + ")", x.rests(0, wind, stream, k), want[k]);
    }

    private static void along() {
        Due.says("terms 2", "ALONG is the sum, over LINES that HOLD, of PULLS, each above 0 if X is greater than BOW + HOLE + u, below 0 if it is less (none, if alike), and STREAM (-99 .. 99).");
        QuayRopes x = Due.ship("stone 51 999;stone 50 999;stone 49 999;rope 999 1;", 50, 0);
        int[] signs = {1, 0, -1};
        for (int stone = 0; stone < 3; stone++) {
            x.ship(50, 0);
            x.line(0, 0, stone, 0, 0);
            // at u 0 and v 5 a LINE pulls 5: ahead with the STREAM, behind against it, or none along
            rests(x, 5, -5 * signs[stone], 0, 5, 0, 0);
        }
        // without LINES it is the STREAM alone
        x.ship(50, 0);
        for (int stream = -99; stream <= 99; stream += 11) rests(x, 0, stream, 0, 0, stream, 0);
        Due.is("STREAM 100", x.rests(0, 0, 100, 2), VOID);
        Due.is("STREAM -100", x.rests(0, 0, -100, 2), VOID);
        // it is BOW, HOLE and u together that is less, alike or greater
        x = Due.ship("stone 130 999;rope 999 5;", 50, 0);
        x.line(0, 79, 0, 0, 0);
        // with u 1 it is alike, with u 2 and more it is behind; at v 0 nothing is OFF
        rests(x, 0, 5, 3, 0, 0, 0);
        rests(x, 0, -5, -1, 0, 0, 0);
        // what goes pulls no more: the first of two that pull alike, then the other
        x = Due.ship("stone 100 999;stone 20 999;rope 5 1;rope 999 1;", 50, 0);
        x.line(0, 0, 0, 0, 0);
        x.line(0, 0, 1, 100, 0);
        Due.is("the first goes", x.goes(0, 12, 0, 0), 0);
        Due.is("the other holds, with the STREAM against it", x.holds(0, 12, 0), 2);
    }

    private static void off() {
        Due.says("terms 2", "OFF is WIND (0 .. 999) less all PULLS; with v 0: 0, if that is below 0.");
        QuayRopes x = breasts("rope 999 1;");
        for (int wind : new int[] {0, 1, 500, 998, 999}) rests(x, wind, 0, 0, 0, 0, wind);
        Due.is("WIND 1000", x.rests(0, 1000, 0, 3), VOID);
        Due.is("WIND -1", x.rests(0, -1, 0, 3), VOID);
        x = breasts("rope 999 4;", 0, 0);
        // both pull 8 at v 1: OFF below 0, where it is nearer than WIND 7 at v 0
        rests(x, 7, 0, 0, 1, 0, -1);
        rests(x, 8, 0, 0, 1, 0, 0);
        rests(x, 9, 0, 0, 1, 0, 1);
        // at v 0 a LINE laid with more WATER pulls 9 times 4, and nothing is OFF up to that
        x = Due.ship("stone 50 999;rope 999 4;tide 0 9 9 9 9 9;", 50, 9);
        x.line(2, 0, 0, 0, 0);
        for (int wind : new int[] {0, 1, 35, 36}) rests(x, wind, 0, 0, 0, 0, 0);
        rests(x, 37, 0, 0, 0, 0, 1);
        Due.is("the PULL is there all the same", x.pull(0, 0, 0, NONE), 36);
        // a LINE ahead that pulls at v 0 is met by STREAM alone
        x = Due.ship("stone 90 999;rope 999 1;", 50, 0);
        x.line(0, 0, 0, 0, 0);
        rests(x, 0, -20, -20, 0, 0, 0);
        rests(x, 19, -20, -20, 0, 0, 0);
        // with WIND 21 that is 1 OFF, as well as it is with u 0 and v 20
        rests(x, 21, -20, 0, 20, 0, 1);
    }

    private static void leastSum() {
        Due.says("terms 2", "The ship RESTS in an hour with the u (-20 .. 20) and v (0 .. 20) with the least |ALONG| + |OFF|,");
        QuayRopes x = breasts("rope 999 1;", 0);
        for (int v = 0; v <= 20; v++) rests(x, v, 0, 0, v, 0, 0);
        rests(x, 21, 0, 0, 20, 0, 1);
        rests(x, 999, 0, 0, 20, 0, 979);
        QuayRopes ahead = Due.ship("stone 100 999;rope 999 1;", 50, 0);
        ahead.line(0, 0, 0, 0, 0);
        QuayRopes behind = Due.ship("stone 0 999;rope 999 1;", 50, 0);
        behind.line(0, 0, 0, 0, 0);
        for (int u = 1; u <= 20; u++) {
            rests(ahead, 0, -u, -u, 0, 0, 0);
            rests(behind, 0, u, u, 0, 0, 0);
        }
        rests(ahead, 0, -21, -20, 0, -1, 0);
        rests(behind, 0, 21, 20, 0, 1, 0);
        rests(ahead, 0, -99, -20, 0, -79, 0);
        rests(behind, 0, 99, 20, 0, 79, 0);
        // |ALONG| and |OFF| weigh alike: ahead by K 1 each v is one less OFF, and one more along
        rests(ahead, 9, 0, 0, 0, 0, 9);
        rests(ahead, 9, -1, 0, 1, 0, 8);
        rests(ahead, 9, -9, 0, 9, 0, 0);
        // both at their ends
        rests(ahead, 999, -99, -20, 20, -59, 959);
        rests(behind, 999, 99, 20, 20, 59, 959);
    }

    private static void leastU() {
        Due.says("terms 2", "of like ones the least |u|,");
        QuayRopes x = breasts("rope 999 1;");
        // without LINES all are alike
        for (int[] c : CAN) {
            Due.is("u", x.rests(c[0], c[1], c[2], 0), 0);
            Due.is("v", x.rests(c[0], c[1], c[2], 1), 0);
        }
        x = Due.ship("stone 100 999;rope 999 2;", 50, 0);
        x.line(0, 0, 0, 0, 0);
        // K 2: an odd STREAM is as well met by one u as by the next
        for (int s = 1; s <= 39; s += 2) rests(x, 0, -s, -(s - 1) / 2, 0, -1, 0);
        // |u| comes ahead of v: with u 0 it takes v 6, with u -6 v 0
        x = Due.ship("stone 100 999;rope 999 1;", 50, 0);
        x.line(0, 0, 0, 0, 0);
        rests(x, 6, -6, 0, 6, 0, 0);
        rests(x, 7, -6, 0, 6, 0, 1);
        // with WIND 5 a PULL of 6 is 1 OFF but at v 0
        rests(x, 5, -6, -6, 0, 0, 0);
    }

    private static void lesserU() {
        Due.says("terms 2", "then the least u,");
        // u -1 with v 0, 5 ahead less 10: and u 1 with v 2, where the nearer pulls 5, none along
        QuayRopes x = Due.ship("stone 70 999; stone 51 999; rope 999 5;", 50, 0);
        x.line(0, 0, 0, 0, 0);
        x.line(0, 0, 1, 0, 0);
        rests(x, 5, -5, -1, 0, 5, 0);
        // u comes ahead of v: with u 1 v is less
        x = Due.ship("stone 47 999; stone 49 999; rope 999 8; rope 999 5;", 50, 0);
        x.line(0, 0, 0, 0, 0);
        x.line(0, 0, 1, 100, 0);
        rests(x, 8, 5, -1, 2, -3, -5);
    }

    private static void leastV() {
        Due.says("terms 2", "then the least v.");
        // 2 K v lies as far from one v as from the next
        QuayRopes x = breasts("rope 999 2;", 0, 0);
        for (int v = 0; v <= 19; v++) rests(x, 4 * v + 2, 0, 0, v, 0, 2);
        // SLACK makes many v alike
        x = breasts("rope 999 1;", 0);
        x.mend(0, 0, 20);
        rests(x, 0, 0, 0, 0, 0, 0);
        x.mend(0, 0, 19);
        rests(x, 1, 0, 0, 20, 0, 0);
        rests(x, 0, 0, 0, 0, 0, 0);
    }

    /** In hour 0 and a WIND without STREAM: the LINES that hold, and what goes. */
    private static void over(String what, QuayRopes x, int wind, int holds, int... goes) {
        Due.is(what + ", WIND " + wind + ": holds", x.holds(0, wind, 0), holds);
        Due.is(what + ", WIND " + wind + ": how many times", x.goes(0, wind, 0, NONE), goes.length);
        for (int k = 0; k < goes.length; k++) Due.is(what + ", WIND " + wind + ": goes " + k, x.goes(0, wind, 0, k), goes[k]);
    }

    private static void overLine() {
        Due.says("terms 2", "As she RESTS, a LINE is OVER, if its PULL is more than R less AGE (at least 0);");
        QuayRopes x = breasts("rope 10 1;", 0);
        over("R 10", x, 10, 1);
        over("R 10", x, 11, 0, 0);
        x = breasts("rope 10 1;", 9);
        over("AGE 9", x, 1, 1);
        over("AGE 9", x, 2, 0, 0);
        for (int age : new int[] {10, 11, 12, 99}) {
            // it is 0 at least: what pulls 0 is not OVER
            x = breasts("rope 10 1;", age);
            over("AGE " + age, x, 0, 1);
            over("AGE " + age, x, 1, 0, 0);
        }
        x = breasts("rope 100 20;", 99);
        over("R 1 and K 20", x, 10, 1);
        over("R 1 and K 20", x, 11, 0, 0);
    }

    private static void overStone() {
        Due.says("terms 2", "a STONE, if the PULLS of LINES to it together are more than P.");
        QuayRopes x = Due.ship("stone 50 20;stone 60 20;rope 999 1;", 50, 0);
        x.line(0, 0, 0, 0, 0);
        over("one", x, 20, 1);
        x.line(0, 0, 0, 0, 0);
        over("two together", x, 20, 3);
        over("two together", x, 22, 0, 10);
        // to another STONE they are not together
        x.letGo();
        x.line(0, 10, 1, 0, 0);
        over("each by itself", x, 40, 3);
        // as far off as can be a STONE bears 20 of K 1
        over("each by itself", x, 999, 3);
        QuayRopes less = Due.ship("stone 50 19;stone 60 20;rope 999 1;", 50, 0);
        less.line(0, 0, 0, 0, 0);
        less.line(0, 10, 1, 0, 0);
        over("P 19", less, 38, 3);
        over("P 19", less, 40, 2, 10);
    }

    private static void overByMost() {
        Due.says("terms 2", "What is OVER by most GOES,");
        // each pulls 20: over by 10, 12 and 11
        over("the second", breasts("rope 10 1;rope 8 1;rope 9 1;", 0, 100, 200), 999, 0, 1, 2, 0);
        over("AGE is less borne", breasts("rope 10 1;", 1, 0, 3), 999, 0, 2, 0, 1);
        // by K 1 and 3 the one pulls 20, the other 60: over by 10 and by 8, not by the part of it
        over("by most, not by most of it", breasts("rope 10 1;rope 52 3;", 0, 100), 999, 0, 0, 1);
        // over by 11 a LINE goes ahead of a STONE by 10, by 9 behind it
        QuayRopes x = Due.ship("stone 50 10;rope 9 1;rope 11 1;", 50, 0);
        x.line(0, 0, 0, 0, 0);
        over("a LINE by 11", x, 999, 0, 0);
        x.ship(50, 0);
        x.line(0, 0, 0, 100, 0);
        over("a STONE by 10", x, 999, 0, 10);
    }

    private static void linesFirst() {
        Due.says("terms 2", "of like ones LINES first, then the least number;");
        QuayRopes x = Due.ship("stone 50 10;rope 10 1;", 50, 0);
        x.line(0, 0, 0, 0, 0);
        over("a LINE and a STONE", x, 999, 0, 0);
        over("six LINES", breasts("rope 10 1;", 0, 0, 0, 0, 0, 0), 999, 0, 0, 1, 2, 3, 4, 5);
        over("the least of the weaker", breasts("rope 10 1;", 0, 0, 1, 0, 1, 1), 999, 0, 2, 4, 5, 0, 1, 3);
        // a LINE of a greater number than the STONE's comes first, too
        x = Due.ship("stone 50 30;stone 60 10;rope 999 1;rope 10 1;", 50, 0);
        x.line(0, 0, 0, 0, 0);
        x.line(0, 10, 1, 0, 0);
        x.line(0, 0, 0, 100, 0);
        // each pulls 20: STONE 0 is OVER by 10, STONE 1 by 10, LINE 2 by 10; then STONE 1
        over("LINE 2, then STONE 1", x, 999, 1, 2, 11);
        x = Due.ship("stone 60 10;stone 50 10;stone 70 10;rope 999 1;", 50, 0);
        x.line(0, 20, 2, 0, 0);
        x.line(0, 0, 1, 0, 0);
        x.line(0, 10, 0, 0, 0);
        over("STONES by their numbers", x, 999, 0, 10, 11, 12);
    }

    private static void stoneTakesItsLines() {
        Due.says("terms 2", "with a STONE all its LINES do.");
        QuayRopes x = Due.ship("stone 50 50;stone 60 999;rope 999 1;", 50, 0);
        for (int i = 0; i < 6; i++) x.line(0, i % 2 * 10, i % 2, 0, 0);
        over("three of six", x, 999, 2 + 8 + 32, 10);
        x = Due.ship("stone 50 119;rope 999 1;", 50, 0);
        for (int i = 0; i < 6; i++) x.line(0, 0, 0, 0, 0);
        over("all six", x, 999, 0, 10);
        // a LINE that has gone goes no more with its STONE
        x = Due.ship("stone 50 30;rope 999 1;rope 5 1;", 50, 0);
        x.line(0, 0, 0, 100, 0);
        x.line(0, 0, 0, 0, 0);
        x.line(0, 0, 0, 0, 0);
        // each pulls 20: STONE 0 is OVER by 30, LINE 0 by 15
        over("the STONE", x, 999, 0, 10);
    }

    private static void restsAnew() {
        Due.says("terms 2", "Then she RESTS anew with those that HOLD, and so on, till nothing is OVER.");
        QuayRopes x = breasts("rope 5 1;rope 6 1;", 0, 100);
        over("as both hold", x, 11, 3);
        // 12 is 6 each; with the other alone 12
        over("one behind the other", x, 12, 0, 0, 1);
        // alone the stronger one has 20 at most, which it bears
        over("till nothing is OVER", breasts("rope 5 1;rope 20 1;", 0, 100), 12, 2, 0);
        // the u of two is another than that of one: ahead and behind, 18 each at v 18 and u 0
        x = Due.ship("stone 100 999;stone 0 999;rope 17 1;rope 19 1;", 50, 0);
        x.line(0, 0, 0, 0, 0);
        x.line(0, 0, 1, 100, 0);
        over("36", x, 36, 2, 0);
        over("34", x, 34, 3);
        Due.is("as she RESTS all LINES hold", x.rests(0, 36, 0, 1), 18);
        over("up to six times", breasts("rope 6 1;", 0, 1, 2, 3, 4, 5), 36, 0, 5, 4, 3, 2, 1, 0);
    }

    private static void held() {
        Due.says("terms 2", "HELD is the greatest WIND (up to 999) so that with it, and each less one, nothing GOES;");
        for (int r = 1; r <= 20; r++) Due.is("R " + r, breasts("rope " + r + " 1;", 0).held(0, 0), r < 20 ? r : 999);
        Due.is("no LINES", breasts("rope 1 1;").held(0, 0), 999);
        // 20 v: up to WIND 10 it is 0, up to 30 it is 20
        Due.is("K 20, R 19", breasts("rope 19 20;", 0).held(0, 0), 10);
        Due.is("K 20, R 20", breasts("rope 20 20;", 0).held(0, 0), 30);
        QuayRopes x = breasts("rope 999 20;rope 999 16;", 0, 100);
        x.line(0, 0, 0, 100, 1);
        // 972 at v 19, and 1024 at v 20, more than the STONE's 999: 998 lies as near to both
        Due.is("but for the last", x.held(0, 0), 998);
        // ahead with K 1 and behind with K 2. WIND 7: u -2, v 5, where the first pulls 5 and the second 2; WIND 8: u -1, 4 each
        x = Due.ship("stone 71 999;stone 27 999;rope 4 1;rope 63 2;", 50, 0);
        x.line(0, 0, 0, 0, 2);
        x.line(0, 0, 1, 100, 2);
        int[] holds = {3, 2, 3};
        for (int i = 0; i < 3; i++) Due.is("holds(0, " + (6 + i) + ", -2)", x.holds(0, 6 + i, -2), holds[i]);
        Due.is("each less one", x.held(0, -2), 6);
    }

    private static void heldNone() {
        Due.says("terms 2", "NONE if something does at 0.");
        QuayRopes x = Due.ship("stone 100 999;rope 5 1;", 50, 0);
        x.line(0, 0, 0, 0, 0);
        // ahead of her: at WIND 0 the PULL is the STREAM's
        Due.is("5 of 5", x.held(0, -5), 999);
        Due.is("6 of 5", x.held(0, -6), NONE);
        x = Due.ship("stone 100 5;rope 9 1;", 50, 0);
        x.line(0, 0, 0, 0, 0);
        Due.is("5 of the STONE's 5", x.held(0, -5), 999);
        Due.is("6 of the STONE's 5", x.held(0, -6), NONE);
        for (int r = 7; r <= 11; r++) {
            // laid with 9 more WATER a breast pulls 9 at WIND 0
            x = Due.ship("stone 50 999;rope " + r + " 1;tide 9 0 0 0 0 0;", 50, 9);
            x.line(0, 0, 0, 0, 0);
            Due.is("9 of " + r, x.held(2, 0), r < 9 ? NONE : r);
            Due.is("0 of " + r, x.held(0, 0), r);
        }
        Due.is("0 of none", breasts("rope 1 1;", 99).held(0, 0), 0);
    }

    private static void moved() {
        Due.says("terms 2", "MOVED by a SLACK is the ship, if with n more SLACK (1 .. 20) of a LINE alone she RESTS at a told u: the least such n.");
        QuayRopes x = Due.ship("stone 100 999;stone 60 999;rope 1 1;tide 0 9 0 0 0 0;", 50, 10);
        x.line(0, 0, 0, 0, 0);
        // ahead of her: u is the STREAM and the SLACK, though the LINE would go
        for (int n = 0; n < 20; n++) Due.is("u " + (-1 - n), x.moved(0, 0, -1, 0, -1 - n), n == 0 ? NONE : n);
        // laid with 9 more WATER it is short by 9: u is 8 less n
        x.mend(0, 2, 0);
        for (int u = -20; u <= 20; u++) Due.is("u " + u, x.moved(0, 0, -1, 0, u), u <= 7 && u >= -12 ? 8 - u : NONE);
        // n is 20 at most, whatever SLACK there is
        x.mend(0, 2, 20);
        for (int u = -20; u <= -10; u++) Due.is("u " + u + " behind SLACK 20", x.moved(0, 0, -1, 0, u), u <= -13 ? -12 - u : NONE);
        // the least: nothing pulls with whatever n
        Due.is("u 0", x.moved(0, 0, 0, 0, 0), 1);
        Due.is("u 1", x.moved(0, 0, 0, 0, 1), NONE);
        // two LINES: 3 each in a STREAM of -6, and with 6 more SLACK of the one the other has all
        x.mend(0, 0, 0);
        x.line(0, 0, 1, 0, 0);
        int[] want = {1, 2, 4, 6, NONE};
        for (int line = 0; line < 2; line++) {
            for (int i = 0; i < want.length; i++) Due.is("u " + (-3 - i) + " by LINE " + line, x.moved(0, 0, -6, line, -3 - i), want[i]);
        }
        Due.is("SLACK stays", x.of(0, 3), 0);
        Due.is("she stays", x.rests(0, 0, -6, 0), -3);
    }

    private static void best(String what, QuayRopes x, int stream, int m, int load, int... stones) {
        Due.is(what + ": best(0, 0, " + stream + ", " + m + ", -1)", x.best(0, 0, stream, m, NONE), load);
        for (int k = 0; k < m; k++) Due.is(what + ": best(0, 0, " + stream + ", " + m + ", " + k + ")", x.best(0, 0, stream, m, k), load == NONE ? NONE : stones[k]);
    }

    private static void bestLaid() {
        Due.says("terms 2", "BEST laid: LINES 0 .. m - 1 (m 1 .. 3) as they are, but each to any STONE:");
        // both STONES are ahead: in a STREAM of -12 each LINE has its part, on whichever
        QuayRopes x = Due.ship("stone 100 999;stone 110 999;rope 100 1;rope 100 3;", 50, 10);
        for (int i = 0; i < 4; i++) x.line(0, 0, 1, 0, 0);
        best("one", x, -12, 1, 120, 0);
        best("two", x, -12, 2, 60, 0, 0);
        best("three", x, -12, 3, 40, 0, 0, 0);
        best("four", x, -12, 4, NONE);
        best("none", x, -12, 0, NONE);
        Due.is("they stay where they are", x.of(0, 1), 1);
        x.mend(0, 0, 2);
        best("SLACK 2: 7 and 5", x, -12, 2, 70, 0, 0);
        x.mend(0, 0, 20);
        best("SLACK 20", x, -12, 2, 120, 0, 0);
        x.ship(50, 10);
        x.line(0, 0, 1, 120, 0);
        best("ROPE and AGE", x, -12, 1, 150, 0);
        // a breast laid with 5 more WATER and SLACK 2 is short by 3
        x = Due.ship("stone 50 999;rope 100 1;tide 0 5 0 0 0 0;", 50, 10);
        x.line(2, 0, 0, 0, 2);
        best("its own hour", x, 0, 1, 30, 0);
        x.mend(0, 0, 2);
        best("its own hour", x, 0, 1, 0, 0);
        x = Due.ship("stone 100 999;rope 100 1;", 50, 10);
        // from another HOLE the same STONE is behind her
        x.ship(50, 10);
        x.line(0, 60, 0, 0, 0);
        best("HOLE", x, 12, 1, 120, 0);
        best("HOLE", x, -12, 1, 0, 0);
    }

    private static void bestLeast() {
        Due.says("terms 2", "of all ways by which nothing GOES that in which the greatest, over LINES, of 1000 times PULL by what it bears (R less AGE, at least 1), cut, is least;");
        QuayRopes x = Due.ship("stone 100 999;rope 7 1;rope 14 1;", 50, 0);
        x.line(0, 0, 0, 0, 0);
        int[] loads = {0, 142, 285, 428, 571, 714, 857, 1000, NONE, NONE};
        for (int s = 0; s < loads.length; s++) best("cut", x, -s, 1, loads[s], 0);
        x.line(0, 0, 0, 107, 0);
        x.mend(0, 0, 4);
        // the greatest: 0 and 3 of 7, then 1 and 5 of 7; with 8 of 7 the second LINE would go
        best("over both LINES", x, -3, 2, 428, 0, 0);
        best("over both LINES", x, -6, 2, 714, 0, 0);
        x.ship(50, 0);
        for (int kind : new int[] {100, 0, 100}) x.line(0, 0, 0, kind, 0);
        best("over three", x, -9, 3, 428, 0, 0, 0);
        best("over three", x, -24, 3, NONE);
        // what bears nothing, AGE being more than R, holds as long as it pulls nothing
        for (int age : new int[] {7, 8, 99}) {
            x.ship(50, 0);
            x.line(0, 0, 0, age, 0);
            best("AGE " + age, x, 0, 1, 0, 0);
            best("AGE " + age, x, -1, 1, NONE);
        }
        x.ship(50, 0);
        x.line(0, 0, 0, 6, 0);
        best("AGE 6", x, -1, 1, 1000, 0);
        bestOfTheWays();
    }

    /** The least of ways that are unlike, and the way that would be less if what goes in it held. */
    private static void bestOfTheWays() {
        QuayRopes x = Due.ship("stone 50 999;stone 100 999;rope 100 1;", 50, 0);
        x.line(0, 0, 0, 0, 0);
        // a breast pulls 5 in WIND 5; ahead with u 0 and v 0 it pulls none: as much is left then
        Due.is("by no LOAD", x.best(0, 5, 0, 1, NONE), 0);
        Due.is("by no LOAD", x.best(0, 5, 0, 1, 0), 1);
        // 1 by the first STONE, 0 by the second
        x = Due.ship("stone 50 999;stone 100 999;rope 999 1;", 50, 0);
        x.line(0, 0, 0, 0, 0);
        Due.is("0 is less than 1", x.best(0, 1, 0, 1, NONE), 0);
        Due.is("0 is less than 1", x.best(0, 1, 0, 1, 0), 1);
        // the first STONE bears 12 in a STREAM of -13: the second is taken, though LOADS are alike
        x = Due.ship("stone 90 12;stone 100 13;stone 110 999;rope 100 1;", 50, 0);
        x.line(0, 0, 0, 0, 0);
        best("12", x, -12, 1, 120, 0);
        best("13", x, -13, 1, 130, 1);
        best("14", x, -14, 1, 140, 2);
        x.line(0, 0, 0, 0, 0);
        best("12 by two", x, -12, 2, 60, 0, 0);
        best("14 by two", x, -14, 2, 70, 0, 1);
        best("26 by two", x, -26, 2, 130, 1, 2);
        best("28 by two", x, -28, 2, 140, 2, 2);
    }

    private static void bestFirst() {
        Due.says("terms 2", "of like ones the first by the first LINE's STONE, then the second's.");
        StringBuilder stones = new StringBuilder();
        for (int i = 0; i < 8; i++) stones.append("stone ").append(100 + i).append(" 999;");
        QuayRopes x = Due.ship(stones + "rope 100 1;", 50, 0);
        for (int i = 0; i < 3; i++) x.line(0, 0, 7, 0, 0);
        best("all alike", x, 0, 3, 0, 0, 0, 0);
        best("all alike", x, -12, 3, 40, 0, 0, 0);
        // each STONE bears one LINE of three
        x = Due.ship("stone 90 6;stone 100 6;stone 110 6;rope 100 1;", 50, 0);
        for (int i = 0; i < 3; i++) x.line(0, 0, 2, 0, 0);
        best("one each", x, -18, 3, 60, 0, 1, 2);
        best("one each of two", x, -12, 2, 60, 0, 1);
        x = Due.ship("stone 90 6;stone 100 12;stone 110 6;rope 100 1;", 50, 0);
        for (int i = 0; i < 3; i++) x.line(0, 0, 2, 0, 0);
        best("the second bears two", x, -18, 3, 60, 0, 1, 1);
        x = Due.ship("stone 90 12;stone 100 6;stone 110 6;rope 100 1;", 50, 0);
        for (int i = 0; i < 3; i++) x.line(0, 0, 2, 0, 0);
        best("the first bears two", x, -18, 3, 60, 0, 0, 1);
        // the last of all ways is the only one
        x = Due.ship(stones.toString().replace(" 999;", " 1;").replace("107 1;", "107 99;") + "rope 100 1;", 50, 0);
        for (int i = 0; i < 3; i++) x.line(0, 0, 0, 0, 0);
        best("the last STONE for all", x, -9, 3, 30, 7, 7, 7);
    }

    private static void bestOthersAreNotThere() {
        Due.says("terms 2", "(Other LINES are not there.)");
        QuayRopes x = Due.ship("stone 100 999;rope 100 1;rope 1 20;", 50, 0);
        x.line(0, 0, 0, 0, 0);
        for (int kind : new int[] {0, 199, 0, 0, 100}) {
            x.line(0, 0, 0, kind, 0);
            best("of the first LINE alone", x, -12, 1, 120, 0);
        }
        best("of two alone", x, -12, 2, 60, 0, 0);
        // the third would go
        best("of three", x, -12, 3, NONE);
    }

    private static void restsTold() {
        Due.says("promise 11", "As she RESTS (all LINES hold): 0 u, 1 v, 2 ALONG, 3 OFF;");
        QuayRopes x = Due.ship("stone 0 1;rope 1 1;", 50, 0);
        x.line(0, 0, 0, 99, 0);
        // by a LINE that would go at once, and its STONE
        rests(x, 999, 99, 20, 20, 59, 959);
        rests(x, 3, 3, 0, 3, 0, 0);
        rests(x, 0, 7, 7, 0, 0, 0);
        for (int[] c : CAN) Due.is("in hour " + c[0], x.rests(c[0], c[1], c[2], 0) != VOID, true);
    }

    private static void restsRefused() {
        Due.says("promise 11", "VOID for others, without a ship, or if hour (0 .. 99), WIND, STREAM can't be.");
        for (int what = -1; what <= 4; what++) {
            Due.is("no PORT", new QuayRopes().rests(0, 0, 0, what), VOID);
            Due.is("no ship", Due.port("stone 1 1;rope 1 1;").rests(0, 0, 0, what), VOID);
        }
        QuayRopes x = breasts("rope 9 1;", 0);
        for (int what : new int[] {-1, 4, 5, MIN, MIN + 3, MAX}) Due.is("rests(0, 0, 0, " + what + ")", x.rests(0, 0, 0, what), VOID);
        for (int[] c : CANT) {
            for (int what = -1; what <= 4; what++) Due.is("rests(" + c[0] + ", " + c[1] + ", " + c[2] + ", " + what + ")", x.rests(c[0], c[1], c[2], what), VOID);
        }
        for (int hour = -2; hour <= 101; hour++) Due.is("hour " + hour, x.rests(hour, 0, 0, 3) == VOID, hour < 0 || hour > 99);
    }

    private static void pullTold() {
        Due.says("promise 12", "The PULL of a LINE as she RESTS (line NONE: of all together);");
        QuayRopes x = breasts("rope 1 1;rope 1 3;");
        Due.is("no LINES", x.pull(0, 999, 0, NONE), 0);
        for (int i = 0; i < 6; i++) x.line(0, 0, 0, i % 2 * 100 + 99, i);
        // at v 20 each pulls K times 20 less its SLACK, though all would go
        int sum = 0;
        for (int i = 0; i < 6; i++) {
            int pull = (i % 2 == 0 ? 1 : 3) * (20 - i);
            Due.is("of LINE " + i, x.pull(0, 999, 0, i), pull);
            sum += pull;
        }
        Due.is("of all together", x.pull(0, 999, 0, NONE), sum);
        Due.is("of all, without WIND", x.pull(0, 0, 0, NONE), 0);
    }

    private static void pullRefused() {
        Due.says("promise 12", "NONE likewise, or if there is none such.");
        for (int line = -1; line <= 1; line++) {
            Due.is("no PORT", new QuayRopes().pull(0, 0, 0, line), NONE);
            Due.is("no ship", Due.port("stone 1 1;rope 1 1;").pull(0, 0, 0, line), NONE);
        }
        QuayRopes x = breasts("rope 9 1;");
        Due.is("no LINES", x.pull(0, 9, 0, 0), NONE);
        for (int i = 0; i < 6; i++) x.line(0, 0, 0, 0, 0);
        for (int line : new int[] {-2, 6, 7, MIN, MAX}) Due.is("pull(0, 9, 0, " + line + ")", x.pull(0, 9, 0, line), NONE);
        for (int[] c : CANT) {
            for (int line = -1; line <= 6; line++) Due.is("pull(" + c[0] + ", " + c[1] + ", " + c[2] + ", " + line + ")", x.pull(c[0], c[1], c[2], line), NONE);
        }
        x.letGo();
        Due.is("of one let go", x.pull(0, 9, 0, 5), NONE);
    }

    private static void goesTold() {
        Due.says("promise 13", "What GOES: how many times (k NONE), or the k-th: a LINE, or 10 and a STONE;");
        StringBuilder text = new StringBuilder("rope 999 1;rope 1 1;");
        for (int i = 0; i < 8; i++) text.append("stone ").append(50 + i).append(" 1;");
        QuayRopes x = Due.ship(text.toString(), 50, 0);
        for (int stone = 0; stone < 8; stone++) {
            x.ship(50, 0);
            x.line(0, stone, stone, 0, 0);
            over("STONE " + stone, x, 2, 0, 10 + stone);
        }
        for (int line = 0; line < 6; line++) {
            x.ship(50, 0);
            // a breast to a STONE each, of which one is the weaker by its AGE
            for (int i = 0; i < 6; i++) x.line(0, i, i, i == line ? 101 : 100, 0);
            Due.is("LINE " + line + " first", x.goes(0, 6, 0, 0), line);
            // the others have 1 each in WIND 6, too
            Due.is("how many times", x.goes(0, 6, 0, NONE), 1);
        }
        Due.is("nothing", breasts("rope 9 1;", 0).goes(0, 9, 0, NONE), 0);
    }

    private static void goesRefused() {
        Due.says("promise 13", "NONE likewise, or if there is none such.");
        for (int k = -1; k <= 1; k++) {
            Due.is("no PORT", new QuayRopes().goes(0, 0, 0, k), NONE);
            Due.is("no ship", Due.port("stone 1 1;rope 1 1;").goes(0, 0, 0, k), NONE);
        }
        QuayRopes x = breasts("rope 5 1;", 0, 0, 0, 0, 0, 0);
        for (int k : new int[] {-2, 6, 7, 10, MIN, MAX}) Due.is("goes(0, 99, 0, " + k + ") of six", x.goes(0, 99, 0, k), NONE);
        for (int k : new int[] {-2, 0, 1, 6, MIN, MAX}) Due.is("goes(0, 9, 0, " + k + ") of none", x.goes(0, 9, 0, k), NONE);
        for (int[] c : CANT) {
            for (int k = -1; k <= 6; k++) Due.is("goes(" + c[0] + ", " + c[1] + ", " + c[2] + ", " + k + ")", x.goes(c[0], c[1], c[2], k), NONE);
        }
    }

    private static void holdsTold() {
        Due.says("promise 14", "LINES (bits) that HOLD then;");
        Due.is("no LINES", breasts("rope 1 1;").holds(0, 999, 99), 0);
        for (int n = 1; n <= 6; n++) Due.is(n + " LINES", breasts("rope 99 1;", new int[n]).holds(0, 999, 0), (1 << n) - 1);
        for (int n = 1; n <= 6; n++) Due.is(n + " LINES", breasts("rope 1 1;", new int[n]).holds(0, 999, 0), 0);
        for (int line = 0; line < 6; line++) {
            int[] kinds = {100, 100, 100, 100, 100, 100};
            kinds[line] = 0;
            Due.is("all but LINE " + line, breasts("rope 1 1;rope 99 1;", kinds).holds(0, 999, 0), 63 - (1 << line));
        }
    }

    private static void holdsRefused() {
        Due.says("promise 14", "NONE likewise.");
        Due.is("no PORT", new QuayRopes().holds(0, 0, 0), NONE);
        Due.is("no ship", Due.port("stone 1 1;rope 1 1;").holds(0, 0, 0), NONE);
        QuayRopes x = breasts("rope 5 1;", 0);
        for (int[] c : CANT) Due.is("holds(" + c[0] + ", " + c[1] + ", " + c[2] + ")", x.holds(c[0], c[1], c[2]), NONE);
        for (int[] c : CAN) Due.is("holds(" + c[0] + ", " + c[1] + ", " + c[2] + ")", x.holds(c[0], c[1], c[2]) != NONE, true);
    }

    private static void heldTold() {
        Due.says("promise 15", "HELD;");
        QuayRopes x = breasts("rope 9 1;tide 0 4 0 0 0 0;", 0);
        int[] waters = {0, 0, 4, 4, 0, 0, 0, 0, 0, 0, 0, 0};
        // with 4 more WATER, and DECK 0, the LINE is short by 4: as much less WIND makes no less
        for (int hour = 0; hour <= 99; hour++) Due.is("held(" + hour + ", 0)", x.held(hour, 0), 9);
        x = breasts("rope 3 1;tide 0 4 0 0 0 0;", 0);
        for (int hour = 0; hour <= 99; hour += 3) Due.is("held(" + hour + ", 0)", x.held(hour, 0), waters[hour % 12] > 3 ? NONE : 3);
        x = Due.ship("stone 100 999;rope 99 1;", 50, 0);
        x.line(0, 0, 0, 0, 0);
        for (int stream : new int[] {-99, -98, 0, 98, 99}) Due.is("held(0, " + stream + ")", x.held(0, stream), 999);
    }

    private static void heldRefused() {
        Due.says("promise 15", "NONE likewise.");
        Due.is("no PORT", new QuayRopes().held(0, 0), NONE);
        Due.is("no ship", Due.port("stone 1 1;rope 1 1;").held(0, 0), NONE);
        QuayRopes x = breasts("rope 99 1;", 0);
        int[][] cant = {{-1, 0}, {100, 0}, {0, -100}, {0, 100}, {MIN, 0}, {MAX, 0}, {0, MIN}, {0, MAX}, {MIN, MIN}, {MAX, MAX}};
        for (int[] c : cant) Due.is("held(" + c[0] + ", " + c[1] + ")", x.held(c[0], c[1]), NONE);
        for (int[] c : CAN) Due.is("held(" + c[0] + ", " + c[2] + ")", x.held(c[0], c[2]), 999);
    }

    private static void movedTold() {
        Due.says("promise 16", "MOVED: the least n for a LINE;");
        QuayRopes x = Due.ship("stone 100 999;rope 999 1;", 50, 0);
        for (int i = 0; i < 6; i++) x.line(0, 0, 0, 0, i == 5 ? 0 : 20);
        // the last LINE holds her in a STREAM of -4; none of the others does
        for (int i = 0; i < 5; i++) Due.is("by LINE " + i, x.moved(0, 0, -4, i, -4), 1);
        for (int i = 0; i < 6; i++) Due.is("by LINE " + i + " to u -9", x.moved(0, 0, -4, i, -9), i == 5 ? 5 : NONE);
        Due.is("to u -20", x.moved(0, 0, -4, 5, -20), 16);
        Due.is("to u 20", x.moved(0, 0, -4, 5, 20), NONE);
    }

    private static void movedRefused() {
        Due.says("promise 16", "NONE if there is none, or none such, or u can't be.");
        Due.is("no PORT", new QuayRopes().moved(0, 0, 0, 0, 0), NONE);
        QuayRopes x = Due.port("stone 100 999;rope 999 1;");
        Due.is("no ship", x.moved(0, 0, 0, 0, 0), NONE);
        x.ship(50, 0);
        Due.is("no LINES", x.moved(0, 0, 0, 0, 0), NONE);
        x.line(0, 0, 0, 0, 0);
        for (int line : new int[] {-1, -2, 1, 6, MIN, MAX}) Due.is("LINE " + line, x.moved(0, 0, 0, line, 0), NONE);
        for (int u : new int[] {-21, 21, -22, 22, MIN, MAX}) Due.is("u " + u, x.moved(0, 0, -99, 0, u), NONE);
        for (int[] c : CANT) Due.is("moved(" + c[0] + ", " + c[1] + ", " + c[2] + ", 0, 0)", x.moved(c[0], c[1], c[2], 0, 0), NONE);
        Due.is("moved(99, 999, 99, 0, 0)", x.moved(99, 999, 99, 0, 0), 1);
        Due.is("u -20", x.moved(0, 0, -99, 0, -20), 1);
        // u -3 is where she RESTS without more SLACK
        Due.is("none", x.moved(0, 0, -3, 0, -3), NONE);
    }

    private static void bestTold() {
        Due.says("promise 17", "BEST laid: the STONE of the k-th LINE (k NONE: the greatest of 1000);");
        QuayRopes x = Due.ship("stone 90 6;stone 100 6;stone 110 6;rope 100 1;", 50, 0);
        for (int i = 0; i < 3; i++) x.line(0, 0, 0, 0, 0);
        for (int m = 1; m <= 3; m++) {
            Due.is("the greatest of " + m, x.best(99, 0, -6 * m, m, NONE), 60);
            for (int k = 0; k < m; k++) Due.is("the STONE of LINE " + k + " of " + m, x.best(99, 0, -6 * m, m, k), k);
        }
    }

    private static void bestRefused() {
        Due.says("promise 17", "NONE if nothing holds, m or others can't be, or there are fewer LINES.");
        Due.is("no PORT", new QuayRopes().best(0, 0, 0, 1, NONE), NONE);
        QuayRopes x = Due.port("stone 100 9;rope 999 1;");
        Due.is("no ship", x.best(0, 0, 0, 1, NONE), NONE);
        x.ship(50, 0);
        for (int lines = 0; lines <= 6; lines++) {
            for (int m = -1; m <= 7; m++) {
                boolean can = m >= 1 && m <= 3 && m <= lines;
                for (int k = -2; k <= 4; k += 1 + lines / 3) {
                    Due.is(lines + " LINES: best(0, 0, 0, " + m + ", " + k + ")", x.best(0, 0, 0, m, k), can && k >= -1 && k < m ? 0 : NONE);
                }
            }
            x.line(0, 0, 0, 0, 0);
        }
        for (int n : new int[] {MIN, MAX}) {
            Due.is("m " + n, x.best(0, 0, 0, n, NONE), NONE);
            Due.is("k " + n, x.best(0, 0, 0, 1, n), NONE);
        }
        for (int[] c : CANT) Due.is("best(" + c[0] + ", " + c[1] + ", " + c[2] + ", 1, -1)", x.best(c[0], c[1], c[2], 1, NONE), NONE);
        // the STONE bears 9
        for (int k = -1; k < 1; k++) {
            Due.is("it holds", x.best(0, 0, -9, 1, k), k < 0 ? 9 : 0);
            Due.is("nothing holds", x.best(0, 0, -10, 1, k), NONE);
        }
    }
}
