/** Promises 34 to 37: a STORM's TASKS, the LOG, and BLAME. */
public final class StormTest {
    private static final int NONE = QuayRopes.NONE;
    private static final int MIN = Integer.MIN_VALUE;
    private static final int MAX = Integer.MAX_VALUE;
    private static final String SHORE = "stone 50 999; rope 20 1;";

    public static void main(String[] args) {
        tasks();
        byOneParty();
        byTwoParties();
        likeOnes();
        refused();
        logged();
        blamed();
        verdicts();
        noBlame();
        Due.end();
    }

    private static void tasks() {
        QuayRopes x = Due.port(SHORE);
        int[][] cant = {{0, 0, 1}, {201, 0, 1}, {1, -1, 1}, {1, 1000, 1}, {1, 0, 0}, {1, 0, 100}, {-1, 0, 1}, {MIN, MIN, MIN}, {MAX, MAX, MAX}};
        for (int[] c : cant) Due.is("34: task(" + c[0] + ", " + c[1] + ", " + c[2] + ")", x.task(c[0], c[1], c[2]), NONE);
        Due.is("34: none came", x.count(10), 0);
        Due.is("35: no TASKS", x.storm(1, NONE), 0);
        Due.is("35: no TASKS", x.storm(2, NONE), 0);
        Due.is("35: no TASKS", x.storm(1, 0), NONE);
        int[][] can = {{1, 0, 1}, {200, 999, 99}, {1, 999, 1}, {1, 0, 99}, {200, 0, 1}, {5, 5, 5}};
        for (int i = 0; i < 6; i++) Due.is("34: task", x.task(can[i][0], can[i][1], can[i][2]), i);
        Due.is("34: a seventh", x.task(1, 1, 1), NONE);
        Due.is("34: TASKS", x.count(10), 6);
    }

    private static void storm(String what, QuayRopes x, int parties, int... want) {
        for (int k = -1; k < want.length - 1; k++) Due.is("35: " + what + ": storm(" + parties + ", " + k + ")", x.storm(parties, k), want[k + 1]);
        Due.is("35: " + what + ": storm(" + parties + ", " + (want.length - 1) + ")", x.storm(parties, want.length - 1), NONE);
    }

    private static void byOneParty() {
        QuayRopes x = Due.port(SHORE);
        x.task(10, 9, 5);
        storm("always late", x, 1, 5, 0);
        x.task(10, 10, 7);
        storm("ends by then", x, 1, 5, 10, 0);
        x.task(5, 15, 4);
        // 1, then 2, then 0
        storm("three", x, 1, 5, 10, 20, 0);
        x.task(6, 20, 4);
        storm("four: one of the last two is LOST", x, 1, 5 + 4, 10, 20, 0, 30);
    }

    private static void byTwoParties() {
        QuayRopes x = Due.port(SHORE);
        x.task(10, 10, 5);
        storm("one TASK: the least n is 0", x, 2, 0, 1);
        x.task(10, 10, 6);
        storm("one each", x, 2, 0, 0, 11);
        x.task(10, 10, 7);
        // the first row by which the TASK of 5 is the one that is late
        storm("two of three in time", x, 2, 5, 10, 0, 21);
        storm("by one PARTY", x, 1, 11, 20, 0, 10);
    }

    /** Of like ones the first row, then the least n. */
    private static void likeOnes() {
        QuayRopes x = Due.port(SHORE);
        for (int i = 0; i < 6; i++) x.task(10, 60, 1);
        storm("nothing LOST", x, 1, 0, 0, 10, 20, 30, 40, 50);
        storm("nothing LOST: n 0", x, 2, 0, 1, 11, 21, 31, 41, 51);
        x = Due.port(SHORE);
        for (int i = 0; i < 6; i++) x.task(10, 30, 1);
        storm("three each", x, 2, 0, 0, 10, 20, 31, 41, 51);
        storm("three are LOST", x, 1, 3, 0, 10, 20, 30, 40, 50);
        x = Due.port(SHORE);
        for (int i = 0; i < 6; i++) x.task(10, 40, 1);
        storm("two by the one, four by the other", x, 2, 0, 0, 10, 21, 31, 41, 51);
        x = Due.port(SHORE);
        x.task(20, 999, 1);
        x.task(10, 40, 9);
        x.task(30, 50, 9);
        storm("the row comes ahead of n", x, 2, 0, 0, 11, 21);
        storm("the last one", x, 1, 0, 10, 20, 0);
    }

    private static void refused() {
        QuayRopes x = Due.port(SHORE);
        x.task(10, 10, 5);
        for (int parties : new int[] {-1, 0, 3, MIN, MAX}) {
            Due.is("35: storm(" + parties + ", -1)", x.storm(parties, NONE), NONE);
            Due.is("35: storm(" + parties + ", 0)", x.storm(parties, 0), NONE);
        }
        for (int k : new int[] {-2, 1, 6, MIN, MAX}) Due.is("35: storm(1, " + k + ")", x.storm(1, k), NONE);
    }

    private static void logged() {
        QuayRopes x = Due.port(SHORE);
        int[][] cant = {{-1, 0, 0}, {100, 0, 0}, {0, -1, 0}, {0, 1000, 0}, {0, 0, -100}, {0, 0, 100}, {MIN, MIN, MIN}, {MAX, MAX, MAX}};
        for (int[] c : cant) Due.is("36: weather(" + c[0] + ", " + c[1] + ", " + c[2] + ")", x.weather(c[0], c[1], c[2]), NONE);
        Due.is("36: none came", x.count(11), 0);
        // there need be no ship
        Due.is("36: weather(0, 0, -99)", x.weather(0, 0, -99), 1);
        Due.is("36: weather(99, 999, 99)", x.weather(99, 999, 99), 2);
        for (int i = 3; i <= 12; i++) Due.is("36: weather", x.weather(0, 0, 0), i);
        Due.is("36: more than 12", x.weather(0, 0, 0), NONE);
        Due.is("36: rows", x.count(11), 12);
        // a ship of her own leaves the LOG as it is
        x.ship(0, 0);
        Due.is("36: rows", x.count(11), 12);
    }

    private static void blame(String what, QuayRopes x, int line, int... want) {
        for (int k = 0; k < 3; k++) Due.is("37: " + what + ": blame(" + line + ", " + k + ")", x.blame(line, k), want[k]);
    }

    /** With a HOLE at the STONE's place and K 1 a LINE alone pulls as much as WIND is, to 20. */
    private static void blamed() {
        QuayRopes x = Due.port(SHORE + "rope 3 1; tide 0 5 0 0 0 0;");
        x.ship(50, 10);
        x.line(0, 0, 0, 0, 0);
        x.weather(0, 3, 0);
        blame("the only row", x, 0, 150, 0, 0);
        x.weather(0, 7, 0);
        x.weather(2, 12, 0);
        blame("the greatest", x, 0, 600, 2, 2);
        x.weather(0, 12, 0);
        blame("the first of like ones", x, 0, 600, 2, 2);
        x.mend(0, 0, 9);
        blame("with more SLACK, in the hour with less WATER to fall", x, 0, 550, 3, 2);
        x.line(0, 0, 0, 0, 9);
        blame("with another LINE", x, 0, 300, 2, 0);
        // all LINES hold, though this one would go
        x.ship(50, 10);
        x.line(0, 0, 0, 100, 0);
        blame("cut", x, 0, 4000, 2, 1);
        x.line(0, 0, 0, 0, 0);
        blame("beside a stronger one", x, 0, 2000, 2, 1);
        blame("the stronger one", x, 1, 300, 2, 0);
        x.ship(50, 10);
        x.line(0, 0, 0, 199, 0);
        blame("by at least 1", x, 0, 12000, 2, 1);
        x.ship(50, 10);
        x.line(0, 0, 0, 13, 0);
        blame("less AGE: 12 by 7", x, 0, 1714, 2, 1);
    }

    private static void verdicts() {
        int[][] want = {{0, 0, 0}, {10, 500, 0}, {11, 550, 2}, {20, 1000, 2}};
        for (int[] w : want) {
            QuayRopes x = Due.port(SHORE);
            x.ship(50, 0);
            x.line(0, 0, 0, 0, 0);
            x.weather(0, w[0], 0);
            blame("WIND " + w[0], x, 0, w[1], 0, w[2]);
        }
        QuayRopes x = Due.port(SHORE);
        x.ship(50, 0);
        x.line(0, 0, 0, 1, 0);
        x.weather(0, 19, 0);
        blame("just borne", x, 0, 1000, 0, 2);
        x.weather(0, 20, 0);
        blame("just not borne", x, 0, 1052, 1, 1);
        x.weather(0, 0, 0);
        blame("a calm behind it", x, 0, 1052, 1, 1);
        x = Due.port("stone 50 999; rope 999 1;");
        x.ship(50, 0);
        x.line(0, 0, 0, 0, 0);
        x.weather(0, 2, 0);
        blame("2 by 999, cut", x, 0, 2, 0, 0);
        // laid in hour 0 with 9 more WATER than in hour 2: 29 times K as far off as can be
        int[][] edges = {{579, 20, 999, 1001, 1}, {580, 20, 999, 1000, 2}, {499, 10, 250, 501, 2}, {500, 10, 250, 500, 0}};
        for (int[] e : edges) {
            x = Due.port("stone 50 999; rope " + e[0] + " " + e[1] + "; tide 9 0 0 0 0 0;");
            x.ship(50, 9);
            x.line(0, 0, 0, 0, 0);
            x.weather(2, e[2], 0);
            blame("R " + e[0], x, 0, e[3], 0, e[4]);
        }
        // by the STREAM alone: ahead of her 6 of it is 6 of PULL
        x = Due.port("stone 90 999; rope 12 1;");
        x.ship(50, 0);
        x.line(0, 0, 0, 0, 0);
        x.weather(0, 0, 6);
        x.weather(0, 0, -6);
        blame("a STREAM", x, 0, 500, 1, 0);
    }

    private static void noBlame() {
        QuayRopes x = Due.port(SHORE);
        Due.is("37: no ship", x.blame(0, 0), NONE);
        x.ship(50, 0);
        x.line(0, 0, 0, 0, 0);
        for (int what = 0; what < 3; what++) Due.is("37: no LOG", x.blame(0, what), NONE);
        x.weather(0, 5, 0);
        Due.is("37: LOAD", x.blame(0, 0), 250);
        for (int what : new int[] {-1, 3, MIN, MAX}) Due.is("37: blame(0, " + what + ")", x.blame(0, what), NONE);
        for (int line : new int[] {-1, 1, 6, MIN, MAX}) Due.is("37: blame(" + line + ", 0)", x.blame(line, 0), NONE);
        x.letGo();
        Due.is("37: no LINE", x.blame(0, 0), NONE);
    }
}
