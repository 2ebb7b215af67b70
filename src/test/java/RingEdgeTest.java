import java.math.BigInteger;

/** The edges that section 4 of the document (RINGS, TURN, LUCK, CHANCE) and promises 22 to 25 name, a sentence at a time. */
public final class RingEdgeTest {
    private static final int NONE = QuayRopes.NONE;
    private static final int MIN = Integer.MIN_VALUE;
    private static final int MAX = Integer.MAX_VALUE;
    private static final String SHORE = "stone 1 1; rope 1 1; ";
    private static final String[] GANGS = {SHORE, SHORE + "gang 1 1;", SHORE + "gang 1 1;gang 1 1;", SHORE + "gang 1 1;gang 1 1;gang 1 1;",
        SHORE + "gang 1 1;gang 1 1;gang 1 1;gang 1 1;"};

    public static void main(String[] args) {
        rings();
        longestAgo();
        neverAheadOfAll();
        leastOfLikeOnes();
        outOfTurn();
        lucks();
        chances();
        chanceOfOtherHomes();
        turnsAsTheyWere();
        ringComes();
        ringRefused();
        takenBack();
        takenBackWithout();
        turnTold();
        turnRefused();
        luckTold();
        luckRefused();
        Due.end();
    }

    private static void rings() {
        Due.says("terms 4", "RINGS (at most 20): the GANGS that were at home (bits, at least one), and the one that was rung, one of these.");
        for (int gangs = 0; gangs <= 4; gangs++) {
            for (int home = -1; home <= 16; home++) {
                QuayRopes x = Due.port(GANGS[gangs]);
                int came = 0;
                for (int gang = -1; gang <= 4; gang++) {
                    boolean can = home > 0 && home < 1 << gangs && gang >= 0 && gang < gangs && (home >> gang & 1) == 1;
                    if (can) came++;
                    Due.is(gangs + " GANGS: ring(" + home + ", " + gang + ")", x.ring(home, gang), can ? came : NONE);
                }
            }
        }
        QuayRopes x = Due.port(GANGS[1]);
        for (int n = 1; n <= 22; n++) Due.is("at most 20", x.ring(1, 0), n <= 20 ? n : NONE);
    }

    private static void longestAgo() {
        Due.says("terms 4", "Its TURN is that one of those at home that was rung longest ago");
        QuayRopes x = Due.port(GANGS[4]);
        for (int gang : new int[] {2, 0, 3, 1}) x.ring(15, gang);
        int[] order = {2, 0, 3, 1};
        for (int home = 1; home < 16; home++) {
            int turn = 0;
            while ((home >> order[turn] & 1) == 0) turn++;
            Due.is("turn(" + home + ")", x.turn(home), order[turn]);
        }
        // it is the last time that counts, be it 19 RINGS ago
        x.ring(15, 2);
        Due.is("rung again", x.turn(15), 0);
        x.ring(15, 0);
        x.ring(15, 3);
        for (int n = 7; n < 20; n++) x.ring(4, 2);
        Due.is("long ago", x.turn(15), 1);
        Due.is("not so long ago", x.turn(13), 0);
        Due.is("just now, alone at home", x.turn(4), 2);
        // whether it was its TURN then, and who was at home, is no matter
        x = Due.port(GANGS[3]);
        for (int gang : new int[] {2, 1, 0}) x.ring(1 << gang, gang);
        Due.is("the first of three", x.turn(7), 2);
    }

    private static void neverAheadOfAll() {
        Due.says("terms 4", "(never: ahead of all;");
        for (int never = 0; never < 4; never++) {
            QuayRopes x = Due.port(GANGS[4]);
            for (int n = 0; n < 20; n++) x.ring(15, (never + 1 + n % 3) % 4);
            Due.is("never " + never, x.turn(15), never);
            Due.is("not at home", x.turn(15 - (1 << never)) != never, true);
        }
        // the very first RING was longest ago of all that were rung
        QuayRopes x = Due.port(GANGS[2]);
        x.ring(3, 0);
        Due.is("the one that was not", x.turn(3), 1);
        x.ring(3, 1);
        Due.is("the first", x.turn(3), 0);
        x.undo();
        x.undo();
        Due.is("none of both", x.turn(3), 0);
    }

    private static void leastOfLikeOnes() {
        Due.says("terms 4", "of like ones the least number).");
        QuayRopes x = Due.port(GANGS[4]);
        for (int home = 1; home < 16; home++) Due.is("none was rung: turn(" + home + ")", x.turn(home), Integer.numberOfTrailingZeros(home));
        x.ring(15, 1);
        int[] want = {0, 1, 0, 2, 0, 2, 0, 3, 0, 3, 0, 2, 0, 2, 0};
        for (int home = 1; home < 16; home++) Due.is("1 was rung: turn(" + home + ")", x.turn(home), want[home - 1]);
    }

    private static void outOfTurn() {
        Due.says("terms 4", "OUT of turn is a RING of another one.");
        for (int rung = 0; rung < 4; rung++) {
            for (int home = 1; home < 16; home++) {
                if ((home >> rung & 1) == 0) continue;
                QuayRopes x = Due.port(GANGS[4]);
                x.ring(home, rung);
                Due.is("ring(" + home + ", " + rung + ")", x.luck(rung, 1), rung == Integer.numberOfTrailingZeros(home) ? 0 : 1);
            }
        }
    }

    private static void lucks() {
        Due.says("terms 4", "A GANG's LUCK are the RINGS OUT of turn in which it was rung;");
        QuayRopes x = Due.port(GANGS[4]);
        for (int gang = 0; gang < 4; gang++) Due.is("no RINGS", x.luck(gang, 1), 0);
        // never rung, 0 would have its TURN in all 20
        for (int n = 1; n <= 20; n++) {
            x.ring(15, 3);
            Due.is("GANG 3 after " + n, x.luck(3, 1), n);
            Due.is("GANG 0 after " + n, x.luck(0, 1), 0);
        }
        x = Due.port(GANGS[4]);
        // in turn all the time
        for (int n = 0; n < 20; n++) x.ring(15, n % 4);
        for (int gang = 0; gang < 4; gang++) Due.is("in turn", x.luck(gang, 1), 0);
        x.undo();
        x.ring(15, 2);
        Due.is("the last one OUT of turn", x.luck(2, 1), 1);
    }

    /** Of 1000, cut: the ways with so much luck or more, if 'others' of one more can be rung in each RING. */
    private static int chance(int rings, int luck, int others) {
        BigInteger ways = BigInteger.ZERO;
        for (int k = luck; k <= rings; k++) {
            BigInteger chosen = BigInteger.ONE;
            for (int i = 0; i < k; i++) chosen = chosen.multiply(BigInteger.valueOf(rings - i)).divide(BigInteger.valueOf(i + 1));
            ways = ways.add(chosen.multiply(BigInteger.valueOf(others).pow(rings - k)));
        }
        return ways.multiply(BigInteger.valueOf(1000)).divide(BigInteger.valueOf(others + 1).pow(rings)).intValueExact();
    }

    private static void chances() {
        Due.says("terms 4", "its CHANCE: of all ways in which in each RING any one of those at home could have been rung (each counted once;");
        // as 0 is never rung it is 0's TURN always; the last GANG of two, three or four is rung so often, else 1
        for (int gangs = 3; gangs <= 4; gangs++) {
            for (int luck = 0; luck <= 20; luck++) {
                QuayRopes x = Due.port(GANGS[gangs]);
                for (int n = 0; n < 20; n++) x.ring((1 << gangs) - 1, n < luck ? gangs - 1 : 1);
                Due.is(luck + " of 20", x.luck(gangs - 1, 2), chance(20, luck, gangs - 1));
                Due.is(20 - luck + " of 20", x.luck(1, 2), chance(20, 20 - luck, gangs - 1));
                Due.is("0 of 20", x.luck(0, 2), 1000);
            }
        }
        for (int n = 1; n <= 20; n++) {
            QuayRopes x = Due.port(GANGS[4]);
            for (int i = 0; i < n; i++) x.ring(10, 3);
            // by two, OUT of turn each time
            Due.is("all " + n, x.luck(3, 2), 1000 >> n);
        }
    }

    private static void chanceOfOtherHomes() {
        Due.says("terms 4", "how many have its LUCK or more, of 1000 (cut).");
        QuayRopes x = Due.port(GANGS[4]);
        for (int gang = 0; gang < 4; gang++) Due.is("no RINGS: all of one way", x.luck(gang, 2), 1000);
        x.ring(14, 3);
        Due.is("one of three", x.luck(3, 2), 333);
        x.ring(3, 1);
        // not at home it could not be rung: 2 of 6 ways
        Due.is("one of three, twice", x.luck(3, 2), 333);
        // 1 was not rung in the first, where it was its TURN: one of two
        Due.is("one of two", x.luck(1, 2), 500);
        x.ring(10, 3);
        // rung before 1, it is 3's TURN: no way more with LUCK
        Due.is("in TURN", x.luck(3, 1), 1);
        Due.is("one of three all the same", x.luck(3, 2), 333);
        x.ring(9, 3);
        // it was 0's TURN, which was never rung: one of three and one of two
        Due.is("both of two", x.luck(3, 1), 2);
        Due.is("both of two", x.luck(3, 2), 166);
        x.undo();
        x.ring(9, 0);
        // 2 of 6 ways have none
        Due.is("one or both of two", x.luck(3, 2), 666);
    }

    private static void turnsAsTheyWere() {
        Due.says("terms 4", "TURNS as they were in truth),");
        QuayRopes x = Due.port(GANGS[2]);
        x.ring(3, 1);
        x.ring(3, 1);
        // 0's TURN in both: had 0 been rung first it would be 1's then, but that is not asked
        Due.is("twice OUT of turn", x.luck(1, 1), 2);
        Due.is("one of four ways", x.luck(1, 2), 250);
        x.ring(3, 0);
        x.ring(3, 1);
        // 1's TURN in truth in the fourth: of the first three, two or more
        Due.is("twice OUT of turn", x.luck(1, 1), 2);
        Due.is("four of eight ways", x.luck(1, 2), 500);
        // 0 was in TURN in the third, and could have been OUT of turn in the fourth alone
        Due.is("none OUT of turn", x.luck(0, 1), 0);
        Due.is("all ways", x.luck(0, 2), 1000);
        x.ring(3, 1);
        x.undo();
        x.undo();
        x.ring(3, 0);
        Due.is("once OUT of turn", x.luck(0, 1), 1);
        Due.is("half of the ways", x.luck(0, 2), 500);
    }

    private static void ringComes() {
        Due.says("promise 22", "A RING: how many there are;");
        QuayRopes x = Due.port(GANGS[4]);
        for (int n = 1; n <= 20; n++) {
            Due.is("ring", x.ring(1 << n % 4 | 1, n % 4), n);
            Due.is("count(6)", x.count(6), n);
        }
        for (int gang = 0; gang < 4; gang++) Due.is("rung", x.luck(gang, 0), 5);
    }

    private static void ringRefused() {
        Due.says("promise 22", "NONE if there is no PORT, it can't be, or 20 are.");
        Due.is("no PORT", new QuayRopes().ring(1, 0), NONE);
        Due.is("no GANGS", Due.port(SHORE).ring(1, 0), NONE);
        QuayRopes x = Due.port(GANGS[3]);
        int[][] cant = {{0, 0}, {0, -1}, {-1, 0}, {8, 3}, {8, 0}, {9, 0}, {15, 0}, {15, 3}, {16, 4}, {6, 0}, {5, 1}, {3, 2}, {7, 3}, {7, -1}, {7, 4}, {1, 32}, {2, 33}, {1, -32},
            {7, MIN}, {7, MAX}, {MIN, 0}, {MAX, 0}, {MIN, 31}, {MIN | 1, 0}, {MIN, MIN}, {MAX, MAX}, {256 + 1, 0}};
        for (int[] c : cant) Due.is("ring(" + c[0] + ", " + c[1] + ")", x.ring(c[0], c[1]), NONE);
        Due.is("none came", x.count(6), 0);
        for (int n = 0; n < 20; n++) x.ring(7, 0);
        Due.is("20 are", x.ring(7, 1), NONE);
        Due.is("20 are", x.count(6), 20);
        Due.is("it was not rung", x.luck(1, 0), 0);
        x.undo();
        Due.is("19 are", x.ring(7, 1), 20);
    }

    private static void takenBack() {
        Due.says("promise 23", "The last RING is taken back: how many there are;");
        QuayRopes x = Due.port(GANGS[4]);
        for (int n = 0; n < 20; n++) x.ring(15, 3 - n % 4);
        for (int n = 19; n >= 0; n--) {
            Due.is("undo()", x.undo(), n);
            Due.is("count(6)", x.count(6), n);
            Due.is("rung 3", x.luck(3, 0), (n + 3) / 4);
            // behind n RINGS
            Due.is("TURN", x.turn(15), n < 4 ? 0 : 3 - n % 4);
        }
    }

    private static void takenBackWithout() {
        Due.says("promise 23", "NONE without.");
        Due.is("no PORT", new QuayRopes().undo(), NONE);
        QuayRopes x = Due.port(GANGS[1]);
        Due.is("no RINGS", x.undo(), NONE);
        x.ring(1, 0);
        Due.is("one", x.undo(), 0);
        Due.is("no RINGS any more", x.undo(), NONE);
        Due.is("count(6)", x.count(6), 0);
        Due.is("the first", x.ring(1, 0), 1);
    }

    private static void turnTold() {
        Due.says("promise 24", "Whose TURN it is, of those at home (bits);");
        for (int gangs = 1; gangs <= 4; gangs++) {
            QuayRopes x = Due.port(GANGS[gangs]);
            for (int gang = 0; gang < gangs; gang++) Due.is("alone", x.turn(1 << gang), gang);
            for (int n = 0; n < 2 * gangs; n++) {
                Due.is("turn of all", x.turn((1 << gangs) - 1), n % gangs);
                x.ring((1 << gangs) - 1, n % gangs);
            }
            Due.is("it is told, not rung", x.count(6), 2 * gangs);
        }
    }

    private static void turnRefused() {
        Due.says("promise 24", "NONE if they can't be.");
        for (int home = -1; home <= 16; home++) Due.is("no PORT", new QuayRopes().turn(home), NONE);
        for (int gangs = 0; gangs <= 4; gangs++) {
            QuayRopes x = Due.port(GANGS[gangs]);
            for (int home = -2; home <= 33; home++) Due.is(gangs + " GANGS: turn(" + home + ")", x.turn(home) != NONE, home > 0 && home < 1 << gangs);
            for (int home : new int[] {MIN, MIN + 1, MAX, 256 + 1, 65536 + 1}) Due.is(gangs + " GANGS: turn(" + home + ")", x.turn(home), NONE);
        }
    }

    private static void luckTold() {
        Due.says("promise 25", "Of a GANG: 0 how often it was rung, 1 its LUCK, 2 its CHANCE.");
        QuayRopes x = Due.port(GANGS[3]);
        x.ring(7, 0);
        x.ring(7, 2);
        x.ring(7, 2);
        x.ring(4, 2);
        // the last was 2's own TURN: two or more of three by thirds are 7 of 27
        int[][] want = {{1, 0, 1000}, {0, 0, 1000}, {3, 2, 259}};
        for (int gang = 0; gang < 3; gang++) {
            for (int what = 0; what < 3; what++) Due.is("luck(" + gang + ", " + what + ")", x.luck(gang, what), want[gang][what]);
        }
    }

    private static void luckRefused() {
        Due.says("promise 25", "NONE for others, or if there is none such.");
        for (int what = -1; what <= 3; what++) {
            Due.is("no PORT", new QuayRopes().luck(0, what), NONE);
            Due.is("no GANGS", Due.port(SHORE).luck(0, what), NONE);
        }
        for (int gangs = 1; gangs <= 4; gangs++) {
            QuayRopes x = Due.port(GANGS[gangs]);
            x.ring(1, 0);
            for (int gang = -1; gang <= 5; gang++) {
                for (int what = -1; what <= 3; what++) {
                    boolean can = gang >= 0 && gang < gangs && what >= 0 && what <= 2;
                    Due.is(gangs + " GANGS: luck(" + gang + ", " + what + ")", x.luck(gang, what), !can ? NONE : what == 2 ? 1000 : what == 0 && gang == 0 ? 1 : 0);
                }
            }
            for (int n : new int[] {MIN, MAX}) {
                Due.is("luck(" + n + ", 0)", x.luck(n, 0), NONE);
                Due.is("luck(0, " + n + ")", x.luck(0, n), NONE);
            }
        }
    }
}
