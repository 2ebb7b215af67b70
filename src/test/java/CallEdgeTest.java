/** The edges that section 3 of the document (CALLS, ROWS, PAY) and promises 18 to 21 name, a sentence at a time. */
public final class CallEdgeTest {
    private static final int NONE = QuayRopes.NONE;
    private static final int MIN = Integer.MIN_VALUE;
    private static final int MAX = Integer.MAX_VALUE;
    private static final String SHORE = "stone 1 1; rope 1 1; ";
    private static final String FOUR = SHORE + "gang 20 0; gang 20 0; gang 20 0; gang 20 0; ";

    public static void main(String[] args) {
        calls();
        metInTheirOrder();
        gangIsFree();
        tugsAreFree();
        waited();
        row();
        lawful();
        leastRow();
        paidForEach();
        paidForWaiting();
        paidForTheNight();
        callComes();
        callRefused();
        metTold();
        metRefused();
        leastTold();
        leastRefused();
        payTold();
        payRefused();
        Due.end();
    }

    private static void met(String what, QuayRopes x, int row, int... want) {
        for (int k = 0; k < 4; k++) Due.is(what + ": met(" + row + ", " + k + ")", x.met(row, k), want[k]);
        for (int c = 0; c < want.length - 4; c++) Due.is(what + ": met(" + row + ", " + (10 + c) + ")", x.met(row, 10 + c), want[4 + c]);
    }

    private static void calls() {
        Due.says("terms 3", "CALLS (at most 6, numbers as they come): the minute a ship comes (0 .. 999), the men wanted (1 .. 20), how long it lasts (1 .. 200), TUGS wanted (0 .. 6).");
        QuayRopes x = Due.port(SHORE + "gang 20 0; gang 19 0; gang 1 0; tugs 6;");
        int[][] ends = {{0, 1, 10}, {999, 1, 10}, {500, 20, 10}, {600, 19, 10}, {700, 1, 2000}, {700, 1, 16}};
        for (int i = 0; i < 6; i++) Due.is("call " + i, x.call(ends[i][0], ends[i][1], ends[i][2]), i);
        Due.is("at most 6", x.call(0, 1, 10), NONE);
        // 1 man by GANG 2, 20 by GANG 0, 19 by GANG 1; the fifth lasts 200, so that the sixth waits
        int row = 2 + 2 * 4 + 64;
        met("their minutes", x, row, 200, 200, 0, 0, 0, 999, 500, 600, 700, 900);
        Due.is("19 men of 20 wanted", x.met(row + 16, 0), NONE);
        Due.is("1 man of 19 wanted", x.met(row + 64, 0), NONE);
        // how long: a second CALL begins as many minutes later
        for (int lasts : new int[] {1, 2, 199, 200}) {
            x = Due.port(SHORE + "gang 1 0;");
            x.call(0, 1, lasts * 10);
            x.call(0, 1, 10);
            Due.is("it lasts " + lasts, x.met(0, 11), lasts);
        }
        for (int tugs = 0; tugs <= 6; tugs++) {
            x = Due.port(SHORE + "gang 1 0; tugs " + Math.max(0, tugs - 1) + ";");
            x.call(0, 1, 10 + tugs);
            Due.is(tugs + " TUGS wanted", x.met(0, 0), tugs == 0 ? 0 : NONE);
        }
    }

    private static void metInTheirOrder() {
        Due.says("terms 3", "They are met in their order:");
        QuayRopes x = Due.port(FOUR + "tugs 1;");
        // the last one comes first, and waits for those that came later
        x.call(999, 1, 1001);
        x.call(500, 1, 101);
        x.call(0, 1, 100);
        met("each by a GANG", x, 0 + 4 + 32, 599, 0, 599, 0, 999, 1099, 0);
        met("all by one", x, 0, 599 + 1109, 1109, 0, 599, 999, 1099, 1109);
    }

    private static void gangIsFree() {
        Due.says("terms 3", "a CALL begins in the first minute from its own on in which its GANG is free (behind its last CALL's end and its SLEEP)");
        for (int sleep : new int[] {0, 1, 599, 600}) {
            // the first ends with minute 109, so that 110 and the SLEEP is the first that is free
            for (int late = -1; late <= 1; late++) {
                QuayRopes x = Due.port(SHORE + "gang 1 " + sleep + ";");
                x.call(10, 1, 1000);
                x.call(110 + sleep + late, 1, 10);
                Due.is("SLEEP " + sleep + ", " + late + " late", x.met(0, 11), 110 + sleep + Math.max(0, late));
            }
        }
        QuayRopes x = Due.port(SHORE + "gang 1 600;");
        for (int i = 0; i < 6; i++) x.call(999, 1, 2000);
        met("one behind the other", x, 0, 800 * 15, 800 * 15, 0, 0, 999, 1799, 2599, 3399, 4199, 4999);
        // each GANG has a SLEEP of its own, and it is free at first
        x = Due.port(SHORE + "gang 1 5; gang 1 50;");
        for (int i = 0; i < 4; i++) x.call(0, 1, 100);
        met("turn by turn", x, 4 + 64, 75, 75, 0, 0, 0, 0, 15, 60);
        met("two and two", x, 16 + 64, 75, 75, 0, 0, 0, 15, 0, 60);
    }

    private static void tugsAreFree() {
        Due.says("terms 3", "and so many TUGS are (each is taken till the CALL's end; the TUGS free first are taken).");
        QuayRopes x = Due.port(SHORE + "gang 1 600; gang 1 600; gang 1 600; gang 1 600; tugs 6;");
        x.call(0, 1, 106);
        x.call(9, 1, 101);
        x.call(11, 1, 106);
        // SLEEP is the GANG's alone: the TUGS are free from minute 10 on, the one taken then till 20
        met("all six", x, 0 + 4 + 32, 1 + 9, 0, 10, 0, 0, 10, 20);
        x.call(30, 1, 2000);
        x.call(30, 1, 100);
        met("none wanted, none taken", x, 0 + 4 + 32 + 192, 10 + 580, 580, 10, 0, 0, 10, 20, 30, 610);
        // 1 till 100, 1 till 10: the one free first is taken at 20 till 30, so that 25 waits for 30
        x = Due.port(FOUR + "tugs 2;");
        x.call(0, 1, 1001);
        x.call(0, 1, 101);
        x.call(20, 1, 101);
        x.call(25, 1, 101);
        met("free first", x, 0 + 4 + 32 + 192, 5, 0, 5, 0, 0, 0, 20, 30);
        // as many as are wanted must be free: the second, third, .. of those that are
        for (int wanted = 1; wanted <= 4; wanted++) {
            x = Due.port(FOUR + "tugs 4;");
            x.call(0, 1, 201);
            x.call(0, 1, 101);
            x.call(0, 1, 301);
            x.call(5, 1, 100 + wanted);
            int[] free = {5, 10, 20, 30};
            Due.is(wanted + " wanted", x.met(0 + 4 + 32 + 192, 13), free[wanted - 1]);
        }
    }

    private static void waited() {
        Due.says("terms 3", "WAITED are the minutes from its own to its beginning: the GANG's, if the GANG was free later than the TUGS, the TUGS', if these were; both', if alike.");
        // the TUG is free from 130 on, the GANG from 130 and its SLEEP on, the other from 0 on
        for (int sleep = 0; sleep <= 2; sleep++) {
            QuayRopes x = Due.port(SHORE + "gang 1 " + sleep + "; gang 1 0; tugs 1;");
            x.call(100, 1, 301);
            x.call(110, 1, 101);
            int all = 20 + sleep;
            met("SLEEP " + sleep, x, 0, all, sleep > 0 ? all : 0, 0, sleep > 0 ? 0 : all, 100, 130 + sleep);
            met("another GANG", x, 4, 20, 0, 20, 0, 100, 130);
        }
        // the GANG is free at 120, the TUGS at 121: all that is WAITED is theirs
        QuayRopes x = Due.port(SHORE + "gang 1 0; gang 1 0; tugs 1;");
        x.call(100, 1, 200);
        x.call(100, 1, 211);
        x.call(110, 1, 101);
        met("the TUGS' by one", x, 0 + 4 + 0, 11, 0, 11, 0, 100, 100, 121);
        met("both'", x, 0 + 4 + 16, 11, 0, 0, 11, 100, 100, 121);
        // nobody's, if nothing is WAITED
        x = Due.port(SHORE + "gang 1 0; gang 1 0; tugs 1;");
        x.call(100, 1, 101);
        x.call(110, 1, 101);
        met("none", x, 0, 0, 0, 0, 0, 100, 110);
        met("none", x, 4, 0, 0, 0, 0, 100, 110);
        // without TUGS wanted it is the GANG's, though they are taken
        x.call(110, 1, 10);
        met("no TUGS wanted", x, 0, 10, 10, 0, 0, 100, 110, 120);
    }

    private static void row() {
        Due.says("terms 3", "A ROW of GANGS: a digit for each CALL, four for each place, the first CALL's the lowest (no digits behind the last CALL's).");
        QuayRopes x = Due.port(SHORE + "gang 1 0; gang 2 0; gang 4 0; gang 8 0; pay 1 0 0;");
        Due.is("no CALLS: row 0", x.met(0, 0), 0);
        for (int row : new int[] {1, 2, 3, 4, MAX, MIN}) Due.is("no CALLS: row " + row, x.met(row, 0), NONE);
        int[] places = {1, 4, 16, 64, 256, 1024, 4096};
        int all = 0;
        for (int c = 0; c < 6; c++) {
            x.call(100 * c, c == 5 ? 8 : 1, 10);
            all += 3 * places[c];
            Due.is("a digit behind the last of " + (c + 1), x.met(all + places[c + 1], 0), NONE);
            Due.is("the greatest of " + (c + 1), x.met(all, 0), 0);
        }
        for (int c = 0; c < 6; c++) Due.is("PAY of GANG 3 but for CALL " + c, x.pay(all - places[c], 3), c == 5 ? NONE : 5);
        for (int bit = 12; bit < 32; bit++) Due.is("row with bit " + bit, x.met(all | 1 << bit, 0), NONE);
    }

    private static void lawful() {
        Due.says("terms 3", "It is LAWFUL, if each GANG is there and has men enough, and the TUGS are enough.");
        QuayRopes x = Due.port(SHORE + "gang 5 0; gang 4 0; gang 6 0; tugs 2;");
        x.call(0, 5, 12);
        int[] want = {0, NONE, 0, NONE};
        for (int row = 0; row < 4; row++) Due.is("row " + row, x.met(row, 0), want[row]);
        x.call(100, 4, 12);
        for (int row = 0; row < 16; row++) Due.is("row " + row, x.met(row, 0), row < 12 ? want[row % 4] : NONE);
        x.call(200, 1, 13);
        for (int row = 0; row < 64; row++) Due.is("three TUGS wanted: row " + row, x.met(row, 0), NONE);
        x = Due.port(SHORE);
        x.call(0, 1, 10);
        for (int row = 0; row < 4; row++) Due.is("no GANGS: row " + row, x.met(row, 0), NONE);
    }

    private static void leastRow() {
        Due.says("terms 3", "The LEAST ROW is the lawful one with the least WAITED in all, of like ones the least number.");
        QuayRopes x = Due.port(FOUR);
        // at once by as many GANGS as there are; the least number has the last CALLS by the least GANGS
        int[] want = {0, 1, 2 + 4, 3 + 8 + 16, 3 + 8 + 16, 3 + 8 + 16 + 64};
        for (int c = 0; c < 6; c++) {
            x.call(0, 1, 100);
            Due.is((c + 1) + " CALLS", x.least(), want[c]);
        }
        Due.is("WAITED", x.met(want[5], 0), 20);
        // the greatest of all ROWS is the only one
        x = Due.port(SHORE + "gang 1 0; gang 1 0; gang 1 0; gang 2 0;");
        for (int i = 0; i < 6; i++) x.call(0, 2, 10);
        Due.is("the last GANG alone", x.least(), 4095);
        // the least WAITED is not that of the GANG that is free first: SLEEP counts for what comes later
        x = Due.port(SHORE + "gang 1 600; gang 1 0;");
        x.call(0, 1, 100);
        x.call(10, 1, 10);
        Due.is("the second GANG ahead", x.least(), 1);
        Due.is("WAITED", x.met(1, 0), 0);
        x.call(11, 1, 10);
        Due.is("the second GANG for the first two", x.least(), 5);
        Due.is("the second GANG for the last two WAITED no more", x.met(20, 0), 0);
        // what WAITED the TUGS make counts, too
        x = Due.port(SHORE + "gang 1 0; gang 1 0; tugs 1;");
        x.call(0, 1, 101);
        x.call(0, 1, 101);
        Due.is("alike by any ROW", x.least(), 0);
        Due.is("WAITED", x.met(0, 0), 10);
    }

    private static void paidForEach() {
        Due.says("terms 3", "PAY of a ROW for a GANG: for each of its CALLS A;");
        QuayRopes x = Due.port(FOUR + "pay 99 0 0;");
        Due.is("no CALLS", x.pay(0, 3), 0);
        for (int c = 0; c < 6; c++) {
            x.call(400, 1, 10);
            Due.is((c + 1) + " CALLS by GANG 0", x.pay(0, 0), 99 * (c + 1));
            Due.is((c + 1) + " CALLS by GANG 0, none by GANG 3", x.pay(0, 3), 0);
        }
        Due.is("two of six", x.pay(3 + 3 * 1024, 3), 198);
        Due.is("four of six", x.pay(3 + 3 * 1024, 0), 396);
    }

    private static void paidForWaiting() {
        Due.says("terms 3", "B for each quarter of an hour WAITED (begun ones, too);");
        int[] waited = {0, 1, 14, 15, 16, 29, 30, 31, 59, 60, 61, 600};
        int[] quarters = {0, 1, 1, 1, 2, 2, 2, 3, 4, 4, 5, 40};
        for (int i = 0; i < waited.length; i++) {
            QuayRopes x = Due.port(SHORE + "gang 1 " + waited[i] + "; pay 0 7 0;");
            x.call(400, 1, 100);
            x.call(410, 1, 10);
            Due.is("WAITED", x.met(0, 0), waited[i]);
            Due.is("WAITED " + waited[i], x.pay(0, 0), 7 * quarters[i]);
        }
        // of each CALL by itself: 1 and 1 are two quarters; and the TUGS' WAITING counts as well
        QuayRopes x = Due.port(SHORE + "gang 1 0; gang 1 0; tugs 1; pay 0 7 0;");
        x.call(400, 1, 101);
        x.call(409, 1, 11);
        x.call(410, 1, 11);
        met("1 and 1", x, 0, 2, 0, 0, 2, 400, 410, 411);
        Due.is("two of one", x.pay(0, 0), 14);
        met("the TUGS'", x, 4 + 16, 2, 0, 1, 1, 400, 410, 411);
        Due.is("two of the other", x.pay(4 + 16, 1), 14);
        Due.is("none of the first", x.pay(4 + 16, 0), 0);
    }

    private static int night(int minute, int lasts) {
        QuayRopes x = Due.port(SHORE + "gang 1 0; pay 0 0 3;");
        x.call(minute, 1, lasts * 10);
        return x.pay(0, 0) / 3;
    }

    private static void paidForTheNight() {
        Due.says("terms 3", "and C for each hour (begun ones, too) of the minutes of the CALL (from its beginning to its end) that lie in the first 360 of 1440.");
        int[][] want = {{0, 1, 1}, {0, 59, 1}, {0, 60, 1}, {0, 61, 2}, {0, 120, 2}, {0, 121, 3}, {0, 180, 3}, {0, 181, 4}, {0, 200, 4},
            {160, 200, 4}, {240, 120, 2}, {240, 200, 2}, {239, 200, 3}, {299, 200, 2}, {300, 60, 1}, {300, 61, 1}, {300, 200, 1},
            {358, 1, 1}, {359, 1, 1}, {359, 200, 1}, {360, 1, 0}, {360, 200, 0}, {999, 200, 0}};
        for (int[] w : want) Due.is("from " + w[0] + " for " + w[1], night(w[0], w[1]), w[2]);
        // the second CALL begins at 1199 and the SLEEP and lasts 100; the next 1440 begin with 1440
        int[][] next = {{140, 0}, {141, 0}, {142, 1}, {201, 1}, {202, 2}, {240, 2}, {241, 2}, {242, 2}, {261, 2}, {262, 2}, {541, 1}, {540, 2}, {500, 2}, {499, 2}, {600, 1}};
        for (int[] n : next) {
            QuayRopes x = Due.port(SHORE + "gang 5 " + n[0] + "; pay 0 0 3;");
            x.call(999, 1, 2000);
            x.call(999, 1, 1000);
            Due.is("from " + (1199 + n[0]), x.pay(0, 0), 3 * n[1]);
        }
        // and end with 1799, behind which the third CALL begins by a minute; the second is by night for its last 60
        for (int late = 0; late <= 1; late++) {
            QuayRopes x = Due.port(SHORE + "gang 5 300; pay 0 0 3;");
            x.call(999, 1, 1000 + 10 * late);
            x.call(999, 1, 1000);
            x.call(999, 1, 100);
            met("the third", x, 0, 400 + 800 + 2 * late, 1200 + 2 * late, 0, 0, 999, 1399 + late, 1799 + late);
            Due.is("up to " + (1799 + late), x.pay(0, 0), late == 0 ? 6 : 3);
        }
        // minutes by night are of each CALL by itself, and where it begins is told with what is WAITED
        QuayRopes x = Due.port(SHORE + "gang 5 0; pay 0 0 3;");
        x.call(0, 1, 300);
        x.call(0, 1, 300);
        x.call(300, 1, 2000);
        Due.is("30 and 30 and 60", x.pay(0, 0), 9);
        x.call(359, 1, 10);
        Due.is("WAITED till day", x.pay(0, 0), 9);
    }

    private static void callComes() {
        Due.says("promise 18", "A CALL (more is how long * 10 and TUGS): its number;");
        QuayRopes x = Due.port(SHORE);
        int[] mores = {10, 2000, 16, 2006, 196, 1203};
        for (int i = 0; i < 6; i++) Due.is("call(0, 1, " + mores[i] + ")", x.call(0, 1, mores[i]), i);
        x = Due.port(SHORE + "gang 1 0; tugs 6;");
        x.call(0, 1, 1203);
        x.call(0, 1, 16);
        Due.is("120 long", x.met(0, 11), 120);
        Due.portAnew(x, SHORE);
        Due.is("in a new PORT", x.call(0, 1, 10), 0);
    }

    private static void callRefused() {
        Due.says("promise 18", "NONE if there is no PORT, it can't be, or 6 came.");
        Due.is("no PORT", new QuayRopes().call(0, 1, 10), NONE);
        QuayRopes x = Due.port(SHORE);
        int[][] cant = {{-1, 1, 10}, {1000, 1, 10}, {MIN, 1, 10}, {MAX, 1, 10}, {0, 0, 10}, {0, 21, 10}, {0, -1, 10}, {0, MIN, 10}, {0, MAX, 10},
            {MIN, MIN, MIN}, {MAX, MAX, MAX}, {-1, 0, 9}, {1000, 21, 2007}};
        for (int[] c : cant) Due.is("call(" + c[0] + ", " + c[1] + ", " + c[2] + ")", x.call(c[0], c[1], c[2]), NONE);
        for (int more : new int[] {9, 8, 7, 6, 1, 0, -1, -4, -9, -10, -11, -16, -2000, 17, 18, 19, 27, 107, 1999, 1997, 2007, 2008, 2009, 2010, 2016, 20000, MIN, MIN + 8, MAX, MAX - 7}) {
            Due.is("call(0, 1, " + more + ")", x.call(0, 1, more), NONE);
        }
        Due.is("none came", x.count(5), 0);
        for (int i = 0; i < 6; i++) Due.is("call", x.call(999, 20, 2006), i);
        for (int i = 0; i < 3; i++) Due.is("6 came", x.call(0, 1, 10), NONE);
        Due.is("CALLS", x.count(5), 6);
    }

    private static void metTold() {
        Due.says("promise 19", "By a ROW: 0 WAITED in all, 1 the GANGS', 2 the TUGS', 3 both'; 10 and c the minute in which CALL c begins.");
        QuayRopes x = Due.port(SHORE + "gang 1 7; gang 1 0; gang 1 0; tugs 1;");
        x.call(0, 1, 101);
        met("one", x, 0, 0, 0, 0, 0, 0);
        x.call(0, 1, 100);
        met("the GANG's", x, 0, 17, 17, 0, 0, 0, 17);
        x.call(0, 1, 101);
        met("the TUGS'", x, 0 + 0 + 16, 17 + 10, 17, 10, 0, 0, 17, 10);
        x.call(0, 1, 101);
        met("both'", x, 0 + 0 + 16 + 64, 17 + 10 + 20, 17, 10, 20, 0, 17, 10, 20);
        x.call(999, 1, 10);
        x.call(999, 1, 10);
        met("six", x, 0 + 0 + 16 + 64 + 256 + 2048, 47, 17, 10, 20, 0, 17, 10, 20, 999, 999);
    }

    private static void metRefused() {
        Due.says("promise 19", "NONE for others, if it isn't LAWFUL, or there is no PORT.");
        for (int what = -1; what <= 16; what++) Due.is("no PORT", new QuayRopes().met(0, what), NONE);
        QuayRopes x = Due.port(SHORE + "gang 1 0;");
        for (int calls = 0; calls <= 6; calls++) {
            for (int what : new int[] {-1, 4, 5, 9, 10 + calls, 11 + calls, 16, 20, MIN, MIN + 10, MAX}) {
                Due.is(calls + " CALLS: met(0, " + what + ")", x.met(0, what), NONE);
            }
            for (int row : new int[] {-1, 1, 2, 3, 4096, MIN, MAX, MIN + 1, -4096}) {
                for (int what : new int[] {0, 3, 10}) Due.is(calls + " CALLS: met(" + row + ", " + what + ")", x.met(row, what), NONE);
            }
            x.call(0, 1, 10);
        }
    }

    private static void leastTold() {
        Due.says("promise 20", "The LEAST ROW;");
        QuayRopes x = Due.port(SHORE + "gang 1 0; gang 3 0; gang 2 0; gang 3 0;");
        Due.is("no CALLS", x.least(), 0);
        // by the GANGS that have men enough, each CALL by another
        int[] men = {1, 2, 3, 3};
        int[] want = {0, 0 + 4, 0 + 2 * 4 + 16, 0 + 2 * 4 + 3 * 16 + 64};
        for (int c = 0; c < 4; c++) {
            x.call(0, men[c], 10);
            Due.is("least() of " + (c + 1), x.least(), want[c]);
        }
    }

    private static void leastRefused() {
        Due.says("promise 20", "NONE if none is LAWFUL, or there is no PORT.");
        Due.is("no PORT", new QuayRopes().least(), NONE);
        QuayRopes x = Due.port(SHORE + "gang 1 0; gang 19 0; tugs 5;");
        for (int i = 0; i < 5; i++) {
            x.call(0, 19, 15);
            Due.is("least()", x.least() >= 0, true);
        }
        x.call(0, 20, 10);
        Due.is("20 men", x.least(), NONE);
        Due.portAnew(x, SHORE + "gang 20 0; tugs 5;");
        x.call(0, 1, 16);
        Due.is("6 TUGS", x.least(), NONE);
        Due.portAnew(x, SHORE + "tugs 6;");
        Due.is("no CALLS", x.least(), 0);
        x.call(0, 1, 10);
        Due.is("no GANGS", x.least(), NONE);
    }

    private static void payTold() {
        Due.says("promise 21", "PAY;");
        QuayRopes x = Due.port(FOUR + "pay 99 98 97;");
        for (int i = 0; i < 6; i++) x.call(0, 1, 2000);
        // 0, 200, .. 1000: 14, 27, 40, 54 and 67 quarters; 200 and 160 minutes of the first 360 are 4 and 3 hours
        int quarters = 14 + 27 + 40 + 54 + 67;
        Due.is("all by one", x.pay(0, 0), 6 * 99 + 98 * quarters + 97 * 7);
        for (int gang = 1; gang <= 3; gang++) Due.is("none by GANG " + gang, x.pay(0, gang), 0);
        for (int gang = 0; gang <= 3; gang++) Due.is("by GANG " + gang, x.pay(gang * 1365, gang), 6 * 99 + 98 * quarters + 97 * 7);
    }

    private static void payRefused() {
        Due.says("promise 21", "NONE if there is no such GANG, or the ROW isn't LAWFUL.");
        Due.is("no PORT", new QuayRopes().pay(0, 0), NONE);
        Due.is("no GANGS", Due.port(SHORE).pay(0, 0), NONE);
        QuayRopes x = Due.port(SHORE + "gang 5 0; gang 9 0; pay 1 1 1;");
        for (int gang : new int[] {-1, 2, 3, 4, MIN, MAX}) Due.is("pay(0, " + gang + ")", x.pay(0, gang), NONE);
        for (int row : new int[] {1, -1, MIN, MAX}) Due.is("pay(" + row + ", 0) without CALLS", x.pay(row, 0), NONE);
        x.call(0, 6, 10);
        for (int gang = -1; gang <= 4; gang++) {
            Due.is("pay(1, " + gang + ")", x.pay(1, gang), gang == 1 ? 2 : gang == 0 ? 0 : NONE);
            for (int row : new int[] {0, 2, 3, 4, 5, -1, -3, MIN, MIN + 1, MAX}) Due.is("pay(" + row + ", " + gang + ")", x.pay(row, gang), NONE);
        }
    }
}
