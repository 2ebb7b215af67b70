/** The edges that sections 6 and 7 of the document (TASKS, the LOG, BLAME) and promises 34 to 37 name, a sentence at a time. */
public final class StormEdgeTest {
    private static final int NONE = QuayRopes.NONE;
    private static final int MIN = Integer.MIN_VALUE;
    private static final int MAX = Integer.MAX_VALUE;
    private static final String SHORE = "stone 50 999;rope 20 1;";

    public static void main(String[] args) {
        tasks();
        parties();
        lost();
        leastLost();
        firstRow();
        leastN();
        logRows();
        loads();
        loadsByWhatItBears();
        blames();
        taskComes();
        taskRefused();
        stormTold();
        stormRefused();
        weatherComes();
        weatherRefused();
        blameTold();
        blameRefused();
        Due.end();
    }

    private static QuayRopes tasks(int... minutesByWorth) {
        QuayRopes x = Due.port(SHORE);
        for (int i = 0; i < minutesByWorth.length; i += 3) {
            Due.is("task", x.task(minutesByWorth[i], minutesByWorth[i + 1], minutesByWorth[i + 2]), i / 3);
        }
        return x;
    }

    private static void storm(String what, QuayRopes x, int parties, int... want) {
        for (int k = -1; k < want.length - 1; k++) Due.is(what + ": storm(" + parties + ", " + k + ")", x.storm(parties, k), want[k + 1]);
    }

    private static void tasks() {
        Due.says("terms 6", "A STORM's TASKS (at most 6, numbers as they come): minutes (1 .. 200), by when (0 .. 999), and what it is worth (1 .. 99).");
        QuayRopes x = tasks(1, 0, 1, 200, 199, 99, 1, 1, 2, 200, 999, 1, 100, 500, 50, 99, 0, 99);
        Due.is("at most 6", x.task(1, 1, 1), NONE);
        for (int n = -1; n <= 202; n++) Due.is("minutes " + n, Due.port(SHORE).task(n, 9, 9), n >= 1 && n <= 200 ? 0 : NONE);
        for (int n = -1; n <= 1001; n++) Due.is("by " + n, Due.port(SHORE).task(9, n, 9), n >= 0 && n <= 999 ? 0 : NONE);
        for (int n = -1; n <= 101; n++) Due.is("worth " + n, Due.port(SHORE).task(9, 9, n), n >= 1 && n <= 99 ? 0 : NONE);
        // each by itself: minutes, by when, worth
        int[][] alone = {{1, 0, 1}, {1, 0, 99}, {200, 0, 50}, {200, 199, 7}};
        for (int[] a : alone) storm("always late", tasks(a), 1, a[2], 0);
        int[][] soon = {{1, 1, 1}, {200, 200, 99}, {200, 999, 99}, {1, 999, 99}};
        for (int[] a : soon) storm("in time", tasks(a), 1, 0, 0);
    }

    private static void parties() {
        Due.says("terms 6", "One or two PARTIES do them in an ORDER: a row of all TASKS, of which the first n go to PARTY 0, the others to PARTY 1 (with one PARTY all to it), each PARTY one behind the other from minute 0 on.");
        QuayRopes x = tasks(10, 10, 9, 10, 10, 8, 10, 20, 7, 10, 20, 6);
        // two each: the first by 10, the second by 20
        storm("two PARTIES", x, 2, 0, 0, 20, 11, 31);
        storm("one PARTY has all", x, 1, 8 + 6, 0, 20, 10, 30);
        // n may be none, and it may be all
        storm("all to PARTY 1", tasks(10, 60, 1, 10, 60, 1), 2, 0, 1, 11);
        x = tasks(10, 20, 1, 10, 10, 1, 10, 5, 1);
        // what is late anyhow is done last, by PARTY 1, or with n 2 by PARTY 0 ahead of nothing
        storm("three", x, 2, 1, 0, 11, 21);
        // minutes 200 each: six end with 1200, by two PARTIES with 600
        x = tasks(200, 200, 1, 200, 400, 1, 200, 600, 1, 200, 200, 1, 200, 400, 1, 200, 600, 1);
        storm("three each", x, 2, 0, 0, 10, 20, 31, 41, 51);
        storm("by one PARTY", x, 1, 3, 0, 10, 20, 30, 40, 50);
    }

    private static void lost() {
        Due.says("terms 6", "LOST is the worth of TASKS that end later than by when.");
        for (int by = 0; by <= 30; by++) {
            // two of 10: the second ends with 20
            QuayRopes x = tasks(10, by, 5, 10, by, 9);
            storm("by " + by, x, 1, by < 10 ? 14 : by < 20 ? 5 : 0, by < 10 || by >= 20 ? 0 : 10, by < 10 || by >= 20 ? 10 : 0);
            Due.is("two PARTIES by " + by, x.storm(2, NONE), by < 10 ? 14 : 0);
        }
        storm("all of six", tasks(1, 0, 99, 1, 0, 99, 1, 0, 99, 1, 0, 99, 1, 0, 99, 1, 0, 99), 2, 594, 1, 11, 21, 31, 41, 51);
    }

    private static void leastLost() {
        Due.says("terms 6", "The LEAST ORDER has the least LOST,");
        // the last of all rows is the only one by which nothing is LOST
        QuayRopes x = tasks(10, 60, 1, 10, 50, 1, 10, 40, 1, 10, 30, 1, 10, 20, 1, 10, 10, 1);
        storm("the last row", x, 1, 0, 50, 40, 30, 20, 10, 0);
        // the first of all rows is the only one
        x = tasks(10, 10, 1, 10, 20, 1, 10, 30, 1, 10, 40, 1, 10, 50, 1, 10, 60, 1);
        storm("the first row", x, 1, 0, 0, 10, 20, 30, 40, 50);
        // the least worth, not the fewest TASKS
        storm("three of 3 for one of 10", tasks(30, 30, 10, 10, 30, 3, 10, 30, 3, 10, 30, 3), 1, 9, 0, 10, 20, 30);
        storm("one of 10 for three of 4", tasks(30, 30, 10, 10, 30, 4, 10, 30, 4, 10, 30, 4), 1, 10, 10, 20, 30, 0);
        // two PARTIES, each by 10, 20 and 30
        x = tasks(10, 30, 1, 10, 20, 1, 10, 10, 1, 10, 30, 1, 10, 20, 1, 10, 10, 1);
        storm("two PARTIES", x, 2, 0, 20, 10, 0, 51, 41, 31);
        // all to one PARTY but for one TASK of 200
        x = tasks(40, 40, 9, 40, 80, 9, 40, 120, 9, 40, 160, 9, 40, 200, 9, 200, 200, 9);
        storm("five and one", x, 2, 0, 0, 10, 20, 30, 40, 51);
        x = tasks(200, 200, 9, 40, 40, 9, 40, 80, 9, 40, 120, 9, 40, 160, 9, 40, 200, 9);
        storm("one and five", x, 2, 0, 0, 11, 21, 31, 41, 51);
    }

    private static void firstRow() {
        Due.says("terms 6", "of like ones the first row,");
        storm("nothing LOST", tasks(10, 999, 1, 10, 999, 1, 10, 999, 1, 10, 999, 1, 10, 999, 1, 10, 999, 1), 1, 0, 0, 10, 20, 30, 40, 50);
        // 1 must be ahead; of the others the first rows
        storm("1 ahead", tasks(10, 999, 1, 10, 10, 1, 10, 999, 1), 1, 0, 10, 0, 20);
        storm("2 ahead of 1", tasks(10, 999, 1, 10, 30, 1, 10, 20, 1), 1, 0, 0, 20, 10);
        // it is LOST whenever it is done: at once
        storm("0 is LOST anyhow", tasks(10, 9, 1, 10, 999, 1), 1, 1, 0, 10);
        // the row comes ahead of n: with n 0 it is 1, 0, 2
        storm("0 first, with n 1", tasks(20, 999, 1, 10, 10, 1, 10, 999, 1), 2, 0, 0, 11, 21);
    }

    private static void leastN() {
        Due.says("terms 6", "then the least n.");
        int[] all = {10, 60, 1, 10, 60, 1, 10, 60, 1, 10, 60, 1, 10, 60, 1, 10, 60, 1};
        storm("n 0", tasks(all), 2, 0, 1, 11, 21, 31, 41, 51);
        for (int n = 1; n <= 3; n++) {
            int[] fewer = all.clone();
            for (int i = 1; i < 18; i += 3) fewer[i] = 60 - 10 * n;
            int[] want = {0, 0, 10, 20, 31, 41, 51};
            for (int k = n; k < 3; k++) want[k + 1] = 10 * k + 1;
            storm("n " + n, tasks(fewer), 2, want);
        }
        storm("one TASK", tasks(1, 1, 1), 2, 0, 1);
        storm("one TASK that is LOST", tasks(2, 1, 1), 2, 1, 1);
    }

    private static void logRows() {
        Due.says("terms 7", "The LOG has at most 12 rows: an hour, WIND and STREAM.");
        QuayRopes x = Due.ship("stone 90 999;rope 999 1;tide 0 0 0 0 0 9;", 50, 9);
        x.line(0, 0, 0, 0, 0);
        x.line(0, 40, 0, 0, 0);
        for (int n = 1; n <= 14; n++) Due.is("weather", x.weather(n % 100, 0, 0), n <= 12 ? n : NONE);
        // hours 10 and 11 have 9 more WATER, nearer to the DECK: the LINES are slack then
        Due.is("LOAD", x.blame(1, 0), 0);
        Due.portAnew(x, "stone 90 999;rope 999 1;tide 9 0 0 0 0 9;");
        x.ship(90, 9);
        x.line(0, 0, 0, 0, 0);
        int[][] rows = {{0, 0, 0}, {11, 7, 0}, {99, 0, 0}, {0, 20, 0}, {12, 999, 0}, {96, 0, 99}, {98, 999, 0}, {98, 999, 99}, {98, 999, -99}};
        // by a breast: with 9 less WATER it is 9 short, in hours 96 and 12 it is not; a STREAM of 99 takes her 20 along
        int[] loads = {0, 7, 9, 20, 20, 20, 29, 49, 49};
        int[] first = {0, 1, 2, 3, 3, 3, 6, 7, 7};
        for (int i = 0; i < rows.length; i++) {
            Due.is("weather", x.weather(rows[i][0], rows[i][1], rows[i][2]), i + 1);
            Due.is("LOAD up to row " + i, x.blame(0, 0), loads[i] * 1000 / 999);
            Due.is("first row up to row " + i, x.blame(0, 1), first[i]);
        }
    }

    private static void loads() {
        Due.says("terms 7", "The LOAD of a LINE in a row is 1000 times its PULL as she RESTS (all LINES hold)");
        QuayRopes x = Due.ship("stone 50 1;rope 1 1;rope 40 2;", 50, 0);
        x.line(0, 0, 0, 0, 0);
        x.line(0, 0, 0, 100, 0);
        x.weather(0, 30, 0);
        // v 10: 10 and 20, though the first LINE and the STONE would go
        Due.is("10 of 1", x.blame(0, 0), 10000);
        Due.is("20 of 40", x.blame(1, 0), 500);
        x.letGo();
        Due.is("20 of 1, alone", x.blame(0, 0), 20000);
        // LINES as they are when it is asked
        x.mend(0, 0, 5);
        Due.is("15 of 1", x.blame(0, 0), 15000);
        x.ship(50, 0);
        x.line(0, 0, 0, 100, 0);
        Due.is("30 of 40", x.blame(0, 0), 750);
    }

    private static void loadsByWhatItBears() {
        Due.says("terms 7", "by what it bears (R less AGE, at least 1), cut.");
        int[][] want = {{0, 1000}, {1, 1111}, {2, 1250}, {3, 1428}, {7, 3333}, {8, 5000}, {9, 10000}, {10, 10000}, {11, 10000}, {99, 10000}};
        for (int[] w : want) {
            QuayRopes x = Due.ship("stone 50 999;rope 10 1;", 50, 0);
            x.line(0, 0, 0, w[0], 0);
            x.weather(0, 10, 0);
            Due.is("10 of 10 less AGE " + w[0], x.blame(0, 0), w[1]);
        }
        // the greatest that can be: K 20 times 29 by at least 1
        QuayRopes x = Due.ship("stone 50 999;rope 1 20;tide 9 0 0 0 0 0;", 50, 9);
        x.line(0, 0, 0, 99, 0);
        x.weather(2, 999, 0);
        Due.is("580 of 1", x.blame(0, 0), 580000);
    }

    private static void blames() {
        Due.says("terms 7", "BLAME: 1 too much was asked, if its LOAD is above 1000 in some row; 0 the LINE itself, if it is 500 at most in all; else 2, it is open.");
        // a breast of R 20 and K 1: 50 of each 1000 to a WIND
        for (int wind = 0; wind <= 25; wind++) {
            QuayRopes x = Due.ship(SHORE, 50, 0);
            x.line(0, 0, 0, 0, 0);
            x.line(0, 0, 0, 1, 20);
            x.weather(0, wind, 0);
            Due.is("WIND " + wind, x.blame(0, 2), wind <= 10 ? 0 : 2);
            Due.is("WIND " + wind + ", a slack LINE", x.blame(1, 2), 0);
            x.mend(0, 0, 20);
            x.mend(1, 0, 0);
            Due.is("WIND " + wind + " of 19", x.blame(1, 2), wind <= 9 ? 0 : wind <= 19 ? 2 : 1);
        }
        // 500 and 501, 1000 and 1001, by 29 times K
        int[][] edges = {{500, 10, 250, 500, 0}, {499, 10, 250, 501, 2}, {580, 20, 999, 1000, 2}, {579, 20, 999, 1001, 1}};
        for (int[] e : edges) {
            QuayRopes x = Due.ship("stone 50 999;rope " + e[0] + " " + e[1] + ";tide 9 0 0 0 0 0;", 50, 9);
            x.line(0, 0, 0, 0, 0);
            x.weather(2, e[2], 0);
            Due.is("LOAD of " + e[0], x.blame(0, 0), e[3]);
            Due.is("BLAME of " + e[0], x.blame(0, 2), e[4]);
        }
        // some row is enough for 1, all rows are wanted for 0
        int[][] winds = {{0, 20, 0}, {20, 0, 0}, {0, 0, 20}, {9, 9, 9}, {9, 10, 9}, {19, 9, 9}, {0, 0, 0}};
        int[] want = {1, 1, 1, 0, 2, 2, 0};
        for (int i = 0; i < winds.length; i++) {
            QuayRopes x = Due.ship(SHORE, 50, 0);
            x.line(0, 0, 0, 1, 0);
            for (int wind : winds[i]) x.weather(0, wind, 0);
            Due.is("three rows", x.blame(0, 2), want[i]);
        }
    }

    private static void taskComes() {
        Due.says("promise 34", "A TASK: its number;");
        QuayRopes x = Due.port(SHORE);
        for (int i = 0; i < 6; i++) Due.is("task", x.task(200, 999, 99), i);
        Due.portAnew(x, SHORE);
        Due.is("in a new PORT", x.task(1, 0, 1), 0);
    }

    private static void taskRefused() {
        Due.says("promise 34", "NONE if there is no PORT, it can't be, or 6 came.");
        Due.is("no PORT", new QuayRopes().task(1, 1, 1), NONE);
        QuayRopes x = Due.port(SHORE);
        int[][] cant = {{0, 1, 1}, {201, 1, 1}, {-1, 1, 1}, {MIN, 1, 1}, {MAX, 1, 1}, {1, -1, 1}, {1, 1000, 1}, {1, MIN, 1}, {1, MAX, 1},
            {1, 1, 0}, {1, 1, 100}, {1, 1, -1}, {1, 1, MIN}, {1, 1, MAX}, {MIN, MIN, MIN}, {MAX, MAX, MAX}};
        for (int[] c : cant) Due.is("task(" + c[0] + ", " + c[1] + ", " + c[2] + ")", x.task(c[0], c[1], c[2]), NONE);
        Due.is("none came", x.count(10), 0);
        for (int i = 0; i < 6; i++) x.task(1, 1, 1);
        for (int i = 0; i < 3; i++) Due.is("6 came", x.task(1, 1, 1), NONE);
        Due.is("TASKS", x.count(10), 6);
    }

    private static void stormTold() {
        Due.says("promise 35", "The LEAST ORDER of one or two PARTIES: LOST (k NONE), or the k-th TASK * 10 and its PARTY;");
        QuayRopes x = Due.port(SHORE);
        for (int parties = 1; parties <= 2; parties++) Due.is("no TASKS, nothing LOST", x.storm(parties, NONE), 0);
        int[][] tasks = {{10, 40, 1}, {10, 30, 2}, {10, 20, 3}, {10, 10, 4}};
        for (int[] t : tasks) x.task(t[0], t[1], t[2]);
        storm("one PARTY", x, 1, 0, 30, 20, 10, 0);
        // the first row by which nothing is LOST: by 10 and 20 each
        storm("two PARTIES", x, 2, 0, 0, 10, 31, 21);
        storm("one PARTY again", x, 1, 0, 30, 20, 10, 0);
    }

    private static void stormRefused() {
        Due.says("promise 35", "NONE if they can't be, there is none such, or no PORT.");
        for (int parties = 0; parties <= 3; parties++) Due.is("no PORT", new QuayRopes().storm(parties, NONE), NONE);
        QuayRopes x = Due.port(SHORE);
        for (int n = 0; n <= 6; n++) {
            for (int parties : new int[] {-1, 0, 3, 4, MIN, MAX}) {
                for (int k = -1; k <= 1; k++) Due.is("storm(" + parties + ", " + k + ")", x.storm(parties, k), NONE);
            }
            for (int parties = 1; parties <= 2; parties++) {
                for (int k : new int[] {-2, n, n + 1, 7, MIN, MAX}) Due.is(n + " TASKS: storm(" + parties + ", " + k + ")", x.storm(parties, k), NONE);
                for (int k = 0; k < n; k++) Due.is(n + " TASKS: storm(" + parties + ", " + k + ")", x.storm(parties, k), 10 * k + parties - 1);
            }
            x.task(1, 999, 1);
        }
    }

    private static void weatherComes() {
        Due.says("promise 36", "A row of the LOG: how many there are;");
        QuayRopes x = Due.port(SHORE);
        int[][] can = {{0, 0, 0}, {99, 0, 0}, {0, 999, 0}, {0, 0, -99}, {0, 0, 99}, {99, 999, 99}, {99, 999, -99}};
        for (int n = 1; n <= 12; n++) {
            int[] c = can[n % can.length];
            Due.is("weather(" + c[0] + ", " + c[1] + ", " + c[2] + ") without a ship", x.weather(c[0], c[1], c[2]), n);
            Due.is("count(11)", x.count(11), n);
        }
        x.ship(0, 0);
        Due.is("a ship leaves the LOG", x.count(11), 12);
        Due.portAnew(x, SHORE);
        Due.is("in a new PORT", x.weather(0, 0, 0), 1);
    }

    private static void weatherRefused() {
        Due.says("promise 36", "NONE without a PORT, if it can't be (hour 0 .. 99), or 12 are.");
        Due.is("no PORT", new QuayRopes().weather(0, 0, 0), NONE);
        QuayRopes x = Due.port(SHORE);
        int[][] cant = {{-1, 0, 0}, {100, 0, 0}, {MIN, 0, 0}, {MAX, 0, 0}, {0, -1, 0}, {0, 1000, 0}, {0, MIN, 0}, {0, MAX, 0},
            {0, 0, -100}, {0, 0, 100}, {0, 0, MIN}, {0, 0, MAX}, {MIN, MIN, MIN}, {MAX, MAX, MAX}};
        for (int[] c : cant) Due.is("weather(" + c[0] + ", " + c[1] + ", " + c[2] + ")", x.weather(c[0], c[1], c[2]), NONE);
        Due.is("none came", x.count(11), 0);
        for (int n = 0; n < 12; n++) x.weather(0, n, 0);
        for (int n = 0; n < 3; n++) Due.is("12 are", x.weather(0, 0, 0), NONE);
        Due.is("rows", x.count(11), 12);
    }

    private static void blameTold() {
        Due.says("promise 37", "The greatest LOAD of a LINE in the LOG (what 0), the first row with it (1), BLAME (2);");
        QuayRopes x = Due.ship(SHORE, 50, 0);
        for (int i = 0; i < 2; i++) x.line(0, 0, 0, i, 0);
        int[] winds = {2, 38, 6, 38, 40, 39, 40, 0, 40, 999, 999, 40};
        int[] first = {0, 1, 1, 1, 4, 4, 4, 4, 4, 4, 4, 4};
        int[] loads = {50, 950, 950, 950, 1000, 1000, 1000, 1000, 1000, 1000, 1000, 1000};
        for (int n = 0; n < 12; n++) {
            x.weather(0, winds[n], 0);
            Due.is("greatest of " + (n + 1), x.blame(0, 0), loads[n]);
            Due.is("first row of " + (n + 1), x.blame(0, 1), first[n]);
            Due.is("BLAME of " + (n + 1), x.blame(0, 2), n == 0 ? 0 : 2);
            Due.is("the other: BLAME of " + (n + 1), x.blame(1, 2), n == 0 ? 0 : n < 4 ? 2 : 1);
        }
        Due.is("the other: 19 and 20 of 19", x.blame(1, 0), 1052);
        Due.is("the other: first row", x.blame(1, 1), 4);
        // the last of 12 alone is the greatest
        x = Due.ship(SHORE, 50, 0);
        x.line(0, 0, 0, 0, 0);
        for (int n = 0; n < 12; n++) x.weather(0, n, 0);
        Due.is("greatest", x.blame(0, 0), 550);
        Due.is("the last row", x.blame(0, 1), 11);
        // without any LOAD it is the first row
        x.mend(0, 0, 20);
        Due.is("no LOAD", x.blame(0, 0), 0);
        Due.is("no LOAD: the first row", x.blame(0, 1), 0);
    }

    private static void blameRefused() {
        Due.says("promise 37", "NONE for others, without a LOG, or if there is none such.");
        for (int what = -1; what <= 3; what++) {
            Due.is("no PORT", new QuayRopes().blame(0, what), NONE);
            QuayRopes x = Due.port(SHORE);
            x.weather(0, 0, 0);
            Due.is("no ship", x.blame(0, what), NONE);
            x.ship(50, 0);
            Due.is("no LINES", x.blame(0, what), NONE);
            x = Due.ship(SHORE, 50, 0);
            x.line(0, 0, 0, 0, 0);
            Due.is("no LOG", x.blame(0, what), NONE);
        }
        QuayRopes x = Due.ship(SHORE, 50, 0);
        for (int i = 0; i < 6; i++) x.line(0, 0, 0, 0, 0);
        x.weather(0, 12, 0);
        for (int what : new int[] {-1, 3, 4, MIN, MIN + 2, MAX}) Due.is("blame(0, " + what + ")", x.blame(0, what), NONE);
        for (int line : new int[] {-1, 6, 7, MIN, MAX}) {
            for (int what = 0; what <= 2; what++) Due.is("blame(" + line + ", " + what + ")", x.blame(line, what), NONE);
        }
        Due.is("blame(5, 0)", x.blame(5, 0), 100);
        x.letGo();
        Due.is("of one let go", x.blame(5, 0), NONE);
    }
}
