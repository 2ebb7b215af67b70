/**
 * Promises 11 to 17: where the ship rests, what pulls, what goes and what holds, MOVED and BEST laid.
 * A 'breast' is a LINE whose HOLE is at its STONE's place: with K 1 it pulls |u| + v less its SLACK.
 */
public final class RestTest {
    private static final int NONE = QuayRopes.NONE;
    private static final int VOID = QuayRopes.VOID;
    private static final int MIN = Integer.MIN_VALUE;
    private static final int MAX = Integer.MAX_VALUE;
    private static final int[][] CANT = {{-1, 0, 0}, {100, 0, 0}, {0, -1, 0}, {0, 1000, 0}, {0, 0, -100}, {0, 0, 100}, {MIN, MIN, MIN}, {MAX, MAX, MAX}};

    public static void main(String[] args) {
        refused();
        withoutLines();
        breast();
        foreAndAft();
        likeSums();
        byWater();
        pulled();
        goesOfLines();
        goesOfStones();
        goesOneBehindTheOther();
        held();
        moved();
        best();
        bestOfMore();
        Due.end();
    }

    private static void rests(String what, QuayRopes x, int[] weather, int... want) {
        for (int k = 0; k < 4; k++) {
            Due.is("11: " + what + ": rests(" + weather[0] + ", " + weather[1] + ", " + weather[2] + ", " + k + ")",
                x.rests(weather[0], weather[1], weather[2], k), want[k]);
        }
    }

    private static int[] in(int hour, int wind, int stream) {
        return new int[] {hour, wind, stream};
    }

    private static void refused() {
        QuayRopes x = Due.port("stone 50 999; rope 999 1;");
        Due.is("11: without a ship", x.rests(0, 0, 0, 0), VOID);
        Due.is("12: without a ship", x.pull(0, 0, 0, NONE), NONE);
        Due.is("13: without a ship", x.goes(0, 0, 0, NONE), NONE);
        Due.is("14: without a ship", x.holds(0, 0, 0), NONE);
        Due.is("15: without a ship", x.held(0, 0), NONE);
        Due.is("16: without a ship", x.moved(0, 0, 0, 0, 0), NONE);
        Due.is("17: without a ship", x.best(0, 0, 0, 1, NONE), NONE);
        x.ship(30, 0);
        x.line(0, 20, 0, 0, 0);
        for (int[] c : CANT) {
            for (int what = -1; what <= 4; what++) Due.is("11: weather that can't be", x.rests(c[0], c[1], c[2], what), VOID);
            for (int line = -1; line <= 1; line++) Due.is("12: weather that can't be", x.pull(c[0], c[1], c[2], line), NONE);
            for (int k = -1; k <= 1; k++) Due.is("13: weather that can't be", x.goes(c[0], c[1], c[2], k), NONE);
            Due.is("14: weather that can't be", x.holds(c[0], c[1], c[2]), NONE);
            if (c[1] == 0 || c[0] == MIN || c[0] == MAX) Due.is("15: weather that can't be", x.held(c[0], c[2]), NONE);
            Due.is("16: weather that can't be", x.moved(c[0], c[1], c[2], 0, 0), NONE);
            for (int k = -1; k <= 0; k++) Due.is("17: weather that can't be", x.best(c[0], c[1], c[2], 1, k), NONE);
        }
        for (int what : new int[] {-1, 4, MIN, MAX}) Due.is("11: rests(0, 0, 0, " + what + ")", x.rests(0, 0, 0, what), VOID);
        for (int line : new int[] {-2, 1, 6, MIN, MAX}) Due.is("12: pull(0, 9, 0, " + line + ")", x.pull(0, 9, 0, line), NONE);
        for (int k : new int[] {-2, 0, 1, MIN, MAX}) Due.is("13: goes(0, 9, 0, " + k + ")", x.goes(0, 9, 0, k), NONE);
        for (int line : new int[] {-1, 1, 6, MIN, MAX}) Due.is("16: moved by LINE " + line, x.moved(0, 9, 0, line, 0), NONE);
        for (int u : new int[] {-21, 21, MIN, MAX}) Due.is("16: moved by " + u, x.moved(0, 9, 0, 0, u), NONE);
        Due.is("16: moved by 0", x.moved(0, 9, 0, 0, 0), 1);
        for (int m : new int[] {-1, 0, 2, 3, 4, MIN, MAX}) Due.is("17: best of " + m, x.best(0, 9, 0, m, NONE), NONE);
        for (int k : new int[] {-2, 1, MIN, MAX}) Due.is("17: best's LINE " + k, x.best(0, 9, 0, 1, k), NONE);
    }

    private static void withoutLines() {
        QuayRopes x = Due.port("stone 50 999; rope 1 20;");
        x.ship(30, 0);
        rests("no LINES", x, in(0, 999, 99), 0, 0, 99, 999);
        rests("no LINES", x, in(99, 0, -99), 0, 0, -99, 0);
        Due.is("12: no LINES", x.pull(0, 999, 99, NONE), 0);
        Due.is("13: no LINES", x.goes(0, 999, 99, NONE), 0);
        Due.is("14: no LINES", x.holds(0, 999, 99), 0);
        Due.is("15: no LINES", x.held(0, 99), 999);
        // LINES of a ship ahead pull no more
        x.line(0, 20, 0, 0, 0);
        Due.is("12: a LINE", x.pull(0, 999, 0, NONE), 400);
        x.ship(30, 0);
        rests("a new ship", x, in(0, 999, 0), 0, 0, 0, 999);
        x.line(0, 20, 0, 0, 0);
        x.letGo();
        rests("let go", x, in(0, 999, 0), 0, 0, 0, 999);
    }

    private static void breast() {
        QuayRopes x = Due.port("stone 50 999; rope 999 1; rope 999 4;");
        x.ship(30, 0);
        x.line(0, 20, 0, 0, 0);
        rests("K 1", x, in(0, 0, 0), 0, 0, 0, 0);
        rests("K 1", x, in(0, 10, 0), 0, 10, 0, 0);
        rests("K 1, as far as can be", x, in(0, 20, 0), 0, 20, 0, 0);
        rests("K 1, more than that", x, in(0, 25, 0), 0, 20, 0, 5);
        // with u 1 the pull is against the STREAM, but less is left for OFF
        rests("K 1 and a STREAM", x, in(0, 7, 3), 0, 7, 3, 0);
        x.mend(0, 0, 6);
        rests("SLACK 6", x, in(0, 10, 0), 0, 16, 0, 0);
        rests("SLACK 6", x, in(0, 0, 0), 0, 0, 0, 0);
        x.ship(30, 0);
        x.line(0, 20, 0, 100, 0);
        // 4 v: 10 lies as far from 8 as from 12
        rests("K 4, like sums: the least v", x, in(0, 10, 0), 0, 2, 0, 2);
        rests("K 4, OFF below 0", x, in(0, 11, 0), 0, 3, 0, -1);
        rests("K 4, at v 0 as well as at 1", x, in(0, 2, 0), 0, 0, 0, 2);
    }

    private static void foreAndAft() {
        QuayRopes x = Due.port("stone 100 999; stone 20 999; rope 999 1; rope 999 2;");
        x.ship(50, 0);
        x.line(0, 0, 0, 0, 0);
        // ahead of her: the pull is v - u, above 0 along the quay; more than WIND at v 0 is nothing OFF
        rests("ahead", x, in(0, 0, -6), -6, 0, 0, 0);
        rests("ahead", x, in(0, 6, -6), 0, 6, 0, 0);
        rests("ahead, nothing pulls back", x, in(0, 0, 6), 0, 0, 6, 0);
        rests("ahead, as far as can be", x, in(0, 0, -30), -20, 0, -10, 0);
        for (int u = 0; u <= 20; u++) rests("ahead", x, in(0, 0, -u), -u, 0, 0, 0);
        x.ship(50, 0);
        x.line(0, 0, 1, 0, 0);
        rests("behind", x, in(0, 0, 6), 6, 0, 0, 0);
        rests("behind, nothing pulls back", x, in(0, 0, -6), 0, 0, -6, 0);
        rests("behind, as far as can be", x, in(0, 0, 30), 20, 0, 10, 0);
        rests("behind, as far as can be both ways", x, in(0, 999, 99), 20, 20, 59, 959);
        for (int u = 0; u <= 20; u++) rests("behind", x, in(0, 0, u), u, 0, 0, 0);
        x.ship(50, 0);
        x.line(0, 0, 0, 100, 0);
        rests("ahead with K 2, like sums: the least |u|", x, in(0, 0, -1), 0, 0, -1, 0);
        rests("ahead with K 2", x, in(0, 0, -2), -1, 0, 0, 0);
        rests("ahead with K 2, like sums: the least |u|", x, in(0, 0, -3), -1, 0, -1, 0);
    }

    /** Of like sums the least |u|, then the least u, then the least v. */
    private static void likeSums() {
        QuayRopes x = Due.port("stone 90 999; stone 10 999; stone 50 999; rope 999 3; rope 999 20;");
        x.ship(50, 0);
        x.line(0, 0, 0, 0, 0);
        x.line(0, 0, 1, 0, 0);
        // both pull 3 times v at u 0, and 3 less and 3 more beside it, which is 6 along
        rests("fore and aft", x, in(0, 12, 0), 0, 2, 0, 0);
        x.ship(50, 0);
        x.line(0, 0, 2, 100, 2);
        // beyond SLACK 2 a breast of K 20 pulls 20: with WIND 9 none is best with none pulled
        rests("a hard breast", x, in(0, 9, 0), 0, 0, 0, 9);
        rests("a hard breast", x, in(0, 10, 0), 0, 0, 0, 10);
        rests("a hard breast", x, in(0, 11, 0), 0, 3, 0, -9);
        likeSides();
    }

    /** Of u -1 and u 1 with like sums it is -1. */
    private static void likeSides() {
        QuayRopes x = Due.port("stone 70 999; stone 51 999; rope 999 5; rope 999 8; rope 999 3;");
        x.ship(50, 0);
        x.line(0, 0, 0, 0, 0);
        x.line(0, 0, 1, 0, 0);
        // u -1, v 0: both pull 5 ahead, 10 - 5 along. u 1, v 2: both pull 5, the second one none
        // along, so that OFF is 5 - 10. In the middle it is 10: 5 along, and 5 off or -5.
        rests("two sides", x, in(0, 5, -5), -1, 0, 5, 0);
        // here v is less with u 1, but u comes first
        x = Due.port("stone 47 999; stone 49 999; rope 999 8; rope 999 5;");
        x.ship(50, 0);
        x.line(0, 0, 0, 0, 0);
        x.line(0, 0, 1, 100, 0);
        // u -1, v 2: the first pulls 8 behind her, the second 5, none along: 5 - 8, and 8 - 13 off.
        // u 1, v 0: both pull behind her, 5 - 13 along.
        rests("two sides", x, in(0, 8, 5), -1, 2, -3, -5);
    }

    private static void byWater() {
        QuayRopes x = Due.port("stone 50 999; rope 999 1; tide 0 2 4 6 4 2;");
        x.ship(30, 10);
        x.line(0, 20, 0, 0, 0);
        // the DECK is 10 above WATER as it was laid, 4 in hour 6: she goes 6 farther off
        rests("water higher", x, in(6, 10, 0), 0, 16, 0, 0);
        rests("water higher, of each 12", x, in(19, 10, 0), 0, 16, 0, 0);
        rests("water higher", x, in(2, 10, 0), 0, 12, 0, 0);
        x.mend(0, 6, 0);
        rests("water lower", x, in(0, 10, 0), 0, 4, 0, 0);
        rests("water lower: at v 0 more PULL than WIND is none OFF", x, in(0, 3, 0), 0, 0, 0, 0);
        Due.is("12: water lower", x.pull(0, 3, 0, 0), 6);
        x.ship(30, 3);
        x.line(2, 20, 0, 0, 0);
        // |3 - 2| as laid, |3 - 6| in hour 6: 2 more, though the WATER is higher
        rests("DECK below WATER", x, in(6, 10, 0), 0, 8, 0, 0);
    }

    private static void pulled() {
        QuayRopes x = Due.port("stone 50 999; stone 80 999; rope 999 1; rope 999 3;");
        x.ship(50, 0);
        x.line(0, 0, 0, 0, 0);
        x.line(0, 30, 1, 100, 2);
        // v and 3 times (v - 2): 5 and 9
        rests("two breasts", x, in(0, 14, 0), 0, 5, 0, 0);
        Due.is("12: of LINE 0", x.pull(0, 14, 0, 0), 5);
        Due.is("12: of LINE 1", x.pull(0, 14, 0, 1), 9);
        Due.is("12: of all", x.pull(0, 14, 0, NONE), 14);
        Due.is("12: of none such", x.pull(0, 14, 0, 2), NONE);
        Due.is("12: with nothing to hold", x.pull(0, 0, 0, NONE), 0);
        x.letGo();
        Due.is("12: of a LINE let go", x.pull(0, 14, 0, 1), NONE);
        Due.is("12: of all", x.pull(0, 14, 0, NONE), 14);
    }

    private static void goes(String what, QuayRopes x, int[] weather, int holds, int... want) {
        String call = what + ": WIND " + weather[1];
        Due.is("14: " + call, x.holds(weather[0], weather[1], weather[2]), holds);
        Due.is("13: " + call, x.goes(weather[0], weather[1], weather[2], NONE), want.length);
        for (int k = 0; k < want.length; k++) Due.is("13: " + call + ", the " + k, x.goes(weather[0], weather[1], weather[2], k), want[k]);
        Due.is("13: " + call + ", no more", x.goes(weather[0], weather[1], weather[2], want.length), NONE);
    }

    private static QuayRopes oneBreast(String text, int kind) {
        QuayRopes x = Due.port(text);
        x.ship(50, 0);
        x.line(0, 0, 0, kind, 0);
        return x;
    }

    private static void goesOfLines() {
        QuayRopes x = oneBreast("stone 50 999; rope 6 1;", 0);
        goes("R 6", x, in(0, 6, 0), 1);
        goes("R 6", x, in(0, 7, 0), 0, 0);
        x = oneBreast("stone 50 999; rope 6 1;", 2);
        goes("AGE 2", x, in(0, 4, 0), 1);
        goes("AGE 2", x, in(0, 5, 0), 0, 0);
        x = oneBreast("stone 50 999; rope 6 1;", 99);
        goes("AGE 99", x, in(0, 0, 0), 1);
        goes("AGE 99", x, in(0, 1, 0), 0, 0);
        Due.is("12: PULL as all LINES hold", x.pull(0, 7, 0, 0), 7);
    }

    private static void goesOfStones() {
        QuayRopes x = oneBreast("stone 50 10; rope 999 1;", 0);
        goes("P 10", x, in(0, 10, 0), 1);
        goes("P 10", x, in(0, 11, 0), 0, 10);
        goes("like ones: LINES first", oneBreast("stone 50 10; rope 10 1;", 0), in(0, 12, 0), 0, 0);
        goes("the STONE by most", oneBreast("stone 50 10; rope 11 1;", 0), in(0, 12, 0), 0, 10);
        goes("the LINE by most", oneBreast("stone 50 10; rope 9 1;", 0), in(0, 12, 0), 0, 0);
        x.line(0, 0, 0, 0, 0);
        goes("two LINES to a STONE", x, in(0, 10, 0), 3);
        goes("two LINES to a STONE", x, in(0, 12, 0), 0, 10);
        x = Due.port("stone 80 999; stone 50 5; rope 999 1;");
        x.ship(50, 0);
        x.line(0, 0, 1, 0, 0);
        x.line(0, 30, 0, 0, 0);
        x.line(0, 0, 1, 0, 0);
        // 9 is 3 each, 6 to the second STONE; the one that holds has 9 then
        goes("the second STONE", x, in(0, 9, 0), 2, 11);
        x = Due.port("stone 80 4; stone 50 7; rope 999 1;");
        x.ship(50, 0);
        x.line(0, 0, 1, 0, 0);
        x.line(0, 30, 0, 0, 0);
        // 9 each: over by 5 and by 2; then 18 to the one that is left
        goes("of two STONES that by most", x, in(0, 18, 0), 0, 10, 11);
        x = Due.port("stone 80 5; stone 50 5; rope 999 1;");
        x.ship(50, 0);
        x.line(0, 0, 1, 0, 0);
        x.line(0, 30, 0, 0, 0);
        goes("of like STONES the least", x, in(0, 18, 0), 0, 10, 11);
    }

    private static void goesOneBehindTheOther() {
        QuayRopes x = Due.port("stone 50 999; stone 80 999; rope 5 1; rope 6 1; rope 3 1; rope 99 1;");
        twoBreasts(x, 0, 100);
        goes("R 5 and 6", x, in(0, 10, 0), 3);
        goes("R 5 and 6", x, in(0, 11, 0), 3);
        goes("R 5 and 6", x, in(0, 12, 0), 0, 0, 1);
        Due.is("11: all LINES hold", x.rests(0, 12, 0, 1), 6);
        twoBreasts(x, 0, 0);
        goes("R 5 and 5", x, in(0, 12, 0), 0, 0, 1);
        twoBreasts(x, 0, 200);
        goes("R 5 and 3", x, in(0, 12, 0), 0, 1, 0);
        twoBreasts(x, 300, 200);
        goes("R 99 and 3", x, in(0, 12, 0), 1, 1);
        // six that go one behind the other, as those left have more and more
        x = Due.port("stone 50 999; rope 5 1;");
        x.ship(50, 0);
        for (int i = 0; i < 6; i++) x.line(0, 0, 0, i == 3 ? 4 : 0, 0);
        goes("six", x, in(0, 36, 0), 0, 3, 0, 1, 2, 4, 5);
        goes("six", x, in(0, 6, 0), 63);
    }

    private static void twoBreasts(QuayRopes x, int kind, int other) {
        x.ship(50, 0);
        x.line(0, 0, 0, kind, 0);
        x.line(0, 30, 1, other, 0);
    }

    private static void held() {
        QuayRopes x = oneBreast("stone 50 999; rope 6 1;", 0);
        Due.is("15: R 6", x.held(0, 0), 6);
        Due.is("15: R 6, any hour", x.held(99, 0), 6);
        // at WIND 0 already a STREAM of 99 has her at u 20, where the LINE pulls 20
        Due.is("15: in a STREAM", x.held(0, 99), NONE);
        Due.is("15: in a STREAM", x.held(0, -99), NONE);
        Due.is("15: AGE 99", oneBreast("stone 50 999; rope 6 1;", 99).held(0, 0), 0);
        Due.is("15: as far as can be", oneBreast("stone 50 999; rope 20 1;", 0).held(0, 0), 999);
        Due.is("15: P 10", oneBreast("stone 50 10; rope 999 1;", 0).held(0, 0), 10);
        x = Due.port("stone 50 999; stone 80 999; rope 5 1; rope 6 1;");
        twoBreasts(x, 0, 100);
        // 11 is no nearer to 12 than to 10, so that both pull 5
        Due.is("15: R 5 and 6", x.held(0, 0), 11);
        for (int[] c : new int[][] {{-1, 0}, {100, 0}, {0, -100}, {0, 100}, {MIN, MIN}, {MAX, MAX}}) Due.is("15: held that can't be", x.held(c[0], c[1]), NONE);
        x = Due.port("stone 50 999; rope 999 20; rope 999 16;");
        x.ship(50, 0);
        x.line(0, 0, 0, 0, 0);
        x.line(0, 0, 0, 100, 0);
        x.line(0, 0, 0, 100, 1);
        // at v 19 they pull 972, at 20 it is 1024, more than the STONE bears: 998 lies as near to both
        Due.is("15: but for the last", x.held(0, 0), 998);
        // K 20 pulls 0 up to WIND 10, and 20 from 11 on
        Due.is("15: K 20", oneBreast("stone 50 999; rope 19 20;", 0).held(0, 0), 10);
    }

    private static void moved() {
        QuayRopes x = Due.port("stone 100 999; stone 60 999; rope 999 1; tide 0 9 0 0 0 0;");
        x.ship(50, 10);
        x.line(0, 0, 0, 0, 0);
        rests("ahead", x, in(0, 0, -6), -6, 0, 0, 0);
        Due.is("16: by none", x.moved(0, 0, -6, 0, -6), NONE);
        Due.is("16: by 1", x.moved(0, 0, -6, 0, -7), 1);
        Due.is("16: by 4", x.moved(0, 0, -6, 0, -10), 4);
        Due.is("16: by 14", x.moved(0, 0, -6, 0, -20), 14);
        Due.is("16: not that way", x.moved(0, 0, -6, 0, 6), NONE);
        Due.is("16: not so far", x.moved(0, 0, -6, 0, -21), NONE);
        Due.is("16: SLACK stays", x.of(0, 3), 0);
        rests("SLACK stays", x, in(0, 0, -6), -6, 0, 0, 0);
        Due.is("16: nothing pulls: at once", x.moved(0, 0, 6, 0, 0), 1);
        // laid with the WATER's 9 the LINE is short by 9 in hour 0: n more SLACK goes beyond 20 in all
        x.mend(0, 2, 20);
        Due.is("16: behind SLACK 20", x.moved(0, 0, -1, 0, -20), 8);
        Due.is("16: behind SLACK 20", x.moved(0, 0, -1, 0, -13), 1);
        // another LINE holds her, however slack this one is
        x.mend(0, 0, 0);
        x.line(0, 0, 1, 0, 0);
        Due.is("16: by the second alone", x.moved(0, 0, -6, 1, -6), 6);
        Due.is("16: by the first alone", x.moved(0, 0, -6, 0, -6), 6);
        Due.is("16: no such LINE", x.moved(0, 0, -6, 2, -6), NONE);
        x.letGo();
        x.mend(0, 2, 0);
        // short by 9, and 1 for the STREAM: u is 8 - n
        Due.is("16: by 20", x.moved(0, 0, -1, 0, -12), 20);
        Due.is("16: by 21", x.moved(0, 0, -1, 0, -13), NONE);
    }

    private static void best() {
        QuayRopes x = Due.port("stone 50 999; stone 80 999; rope 100 1; rope 9 1;");
        x.ship(50, 0);
        x.line(0, 0, 0, 0, 0);
        // to STONE 1 she rests as well without any PULL
        Due.is("17: the least", x.best(0, 10, 0, 1, NONE), 0);
        Due.is("17: its STONE", x.best(0, 10, 0, 1, 0), 1);
        // a STREAM of -10 is met by 10, from wherever ahead: the first
        Due.is("17: in a STREAM", x.best(0, 0, -10, 1, NONE), 100);
        Due.is("17: in a STREAM", x.best(0, 0, -10, 1, 0), 0);
        Due.is("17: the LINES stay", x.of(0, 1), 0);
        x = Due.port("stone 50 999; stone 80 999; rope 999 1; rope 9 1;");
        x.ship(50, 0);
        x.line(0, 0, 1, 0, 0);
        Due.is("17: 0 by the second, 1 by the first", x.best(0, 1, 0, 1, NONE), 0);
        Due.is("17: 0 by the second, 1 by the first", x.best(0, 1, 0, 1, 0), 1);
        x.ship(50, 0);
        x.line(0, 0, 0, 100, 0);
        Due.is("17: R 9", x.best(0, 0, -9, 1, NONE), 1000);
        Due.is("17: R 9, nothing holds", x.best(0, 0, -10, 1, NONE), NONE);
        Due.is("17: R 9, nothing holds", x.best(0, 0, -10, 1, 0), NONE);
        x.ship(50, 0);
        x.line(0, 0, 0, 102, 0);
        Due.is("17: cut", x.best(0, 0, -5, 1, NONE), 714);
        x.ship(50, 0);
        x.line(0, 0, 0, 120, 0);
        Due.is("17: bears nothing", x.best(0, 0, -5, 1, NONE), NONE);
        Due.is("17: bears nothing, pulls nothing", x.best(0, 0, 0, 1, NONE), 0);
    }

    private static void bestOfMore() {
        QuayRopes x = Due.port("stone 50 12; stone 80 999; rope 100 1; tide 0 5 0 0 0 0;");
        x.ship(50, 10);
        x.line(0, 0, 1, 0, 0);
        x.line(2, 0, 1, 0, 5);
        x.line(0, 0, 0, 0, 0);
        // a STREAM of -12: alone each pulls 12; the first STONE bears that, but not 13
        Due.is("17: of one", x.best(0, 0, -12, 1, NONE), 120);
        Due.is("17: of one", x.best(0, 0, -12, 1, 0), 0);
        Due.is("17: of one", x.best(0, 0, -13, 1, 0), 1);
        // two of them share it, on whichever STONES
        Due.is("17: of two", x.best(0, 0, -12, 2, NONE), 60);
        Due.is("17: of two, the first", x.best(0, 0, -12, 2, 0), 0);
        Due.is("17: of two, the second", x.best(0, 0, -12, 2, 1), 0);
        Due.is("17: of two, more than the first STONE bears", x.best(0, 0, -14, 2, NONE), 70);
        Due.is("17: of two, the first", x.best(0, 0, -14, 2, 0), 0);
        Due.is("17: of two, the second", x.best(0, 0, -14, 2, 1), 1);
        Due.is("17: of two, no third", x.best(0, 0, -14, 2, 2), NONE);
        Due.is("17: of three", x.best(0, 0, -18, 3, NONE), 60);
        Due.is("17: of three", x.best(0, 0, -18, 3, 0), 0);
        Due.is("17: of three", x.best(0, 0, -18, 3, 1), 0);
        Due.is("17: of three", x.best(0, 0, -18, 3, 2), 1);
        Due.is("17: four", x.best(0, 0, -18, 4, NONE), NONE);
        x.line(0, 0, 0, 0, 0);
        Due.is("17: four of four", x.best(0, 0, -18, 4, NONE), NONE);
        Due.is("17: three of four", x.best(0, 0, -18, 3, NONE), 60);
        x.letGo();
        // the SLACK and the hour in which it was made fast stay a LINE's own: in hour 2 the first is slack by 5
        Due.is("17: in hour 2", x.best(2, 0, -12, 1, NONE), 120);
        Due.is("17: in hour 2, of two", x.best(2, 0, -12, 2, NONE), 60);
        x.letGo();
        Due.is("17: fewer LINES", x.best(0, 0, -18, 3, NONE), NONE);
        // of eight STONES all but the last bear 1
        StringBuilder text = new StringBuilder("rope 100 1;");
        for (int i = 0; i < 8; i++) text.append("stone ").append(100 + i).append(i < 7 ? " 1;" : " 99;");
        x = Due.port(text.toString());
        x.ship(50, 0);
        for (int i = 0; i < 3; i++) x.line(0, 0, 0, 0, 0);
        Due.is("17: of eight STONES", x.best(0, 0, -9, 1, 0), 7);
        Due.is("17: of eight STONES", x.best(0, 0, -9, 3, NONE), 30);
        for (int k = 0; k < 3; k++) Due.is("17: of eight STONES", x.best(0, 0, -9, 3, k), 7);
        x = Due.port("stone 50 999; rope 20 1;");
        x.ship(50, 0);
        for (int i = 0; i < 3; i++) x.line(0, 0, 0, 0, 0);
        Due.is("17: one STONE alone", x.best(0, 15, 0, 3, NONE), 250);
        for (int k = 0; k < 3; k++) Due.is("17: one STONE alone", x.best(0, 15, 0, 3, k), 0);
    }
}
