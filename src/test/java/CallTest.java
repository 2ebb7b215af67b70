/** Promises 18 to 21: CALLS, how a ROW meets them, the LEAST ROW, and PAY. */
public final class CallTest {
    private static final int NONE = QuayRopes.NONE;
    private static final int MIN = Integer.MIN_VALUE;
    private static final int MAX = Integer.MAX_VALUE;
    private static final String SHORE = "stone 1 1; rope 1 1; ";

    public static void main(String[] args) {
        called();
        gangsAreWaitedFor();
        tugsAreWaitedFor();
        whoseTheWaitingIs();
        tugsFreeFirst();
        inTheirOrder();
        lawful();
        leastRow();
        withoutCalls();
        paid();
        paidAtNight();
        Due.end();
    }

    private static void met(String what, QuayRopes x, int row, int... want) {
        for (int k = 0; k < 4; k++) Due.is("19: " + what + ": met(" + row + ", " + k + ")", x.met(row, k), want[k]);
        for (int c = 0; c < want.length - 4; c++) Due.is("19: " + what + ": met(" + row + ", " + (10 + c) + ")", x.met(row, 10 + c), want[4 + c]);
        for (int k : new int[] {4, 9, 10 + want.length - 4, -1, MIN, MAX}) Due.is("19: " + what + ": met(" + row + ", " + k + ")", x.met(row, k), NONE);
    }

    private static void called() {
        QuayRopes x = Due.port(SHORE);
        int[][] cant = {{-1, 1, 10}, {1000, 1, 10}, {0, 0, 10}, {0, 21, 10}, {0, -1, 10}, {0, 1, 9}, {0, 1, 0}, {0, 1, 7}, {0, 1, 17}, {0, 1, 19},
            {0, 1, 2010}, {0, 1, 2007}, {0, 1, -10}, {0, 1, -11}, {MIN, MIN, MIN}, {MAX, MAX, MAX}, {0, 1, MIN}, {0, 1, MAX}};
        for (int[] c : cant) Due.is("18: call(" + c[0] + ", " + c[1] + ", " + c[2] + ")", x.call(c[0], c[1], c[2]), NONE);
        Due.is("18: none came", x.count(5), 0);
        // neither GANGS nor TUGS need be there
        int[][] can = {{0, 1, 10}, {999, 20, 2006}, {5, 5, 2000}, {5, 5, 16}, {5, 5, 16}, {5, 5, 16}};
        for (int i = 0; i < 6; i++) Due.is("18: call", x.call(can[i][0], can[i][1], can[i][2]), i);
        Due.is("18: a seventh", x.call(0, 1, 10), NONE);
        Due.is("18: CALLS", x.count(5), 6);
        Due.is("20: none LAWFUL", x.least(), NONE);
    }

    private static void gangsAreWaitedFor() {
        QuayRopes x = Due.port(SHORE + "gang 5 40; gang 5 0;");
        x.call(100, 5, 300);
        x.call(110, 5, 200);
        // free behind 130 and a SLEEP of 40
        met("the same GANG", x, 0, 60, 60, 0, 0, 100, 170);
        met("another GANG", x, 4, 0, 0, 0, 0, 100, 110);
        met("the other GANG twice", x, 5, 20, 20, 0, 0, 100, 130);
        x.call(170, 5, 10);
        met("a third one", x, 4, 0, 0, 0, 0, 100, 110, 170);
        met("a third one", x, 16, 60, 60, 0, 0, 100, 170, 170);
        met("a third one", x, 0, 120, 120, 0, 0, 100, 170, 230);
        x = Due.port(SHORE + "gang 5 600;");
        x.call(0, 5, 2000);
        x.call(800, 1, 10);
        met("free just then", x, 0, 0, 0, 0, 0, 0, 800);
    }

    private static void tugsAreWaitedFor() {
        QuayRopes x = Due.port(SHORE + "gang 5 0; gang 5 0; gang 5 0; gang 5 0; tugs 3;");
        x.call(0, 1, 502);
        x.call(0, 1, 301);
        x.call(10, 1, 101);
        x.call(20, 1, 103);
        // three are taken till 30, one till 40 and two till 50: three are free from 50 on
        met("TUGS", x, 0 + 4 + 32 + 192, 50, 0, 50, 0, 0, 0, 30, 50);
        x.call(60, 1, 100);
        met("no TUGS wanted", x, 0 + 4 + 32 + 192 + 256, 50, 0, 50, 0, 0, 0, 30, 50, 60);
        x = Due.port(SHORE + "gang 5 0; gang 5 0;");
        x.call(0, 1, 500);
        x.call(0, 1, 500);
        met("no TUGS at all", x, 4, 0, 0, 0, 0, 0, 0);
    }

    private static void whoseTheWaitingIs() {
        QuayRopes x = Due.port(SHORE + "gang 5 20; gang 5 0; tugs 1;");
        x.call(100, 1, 301);
        x.call(110, 1, 101);
        // the GANG is free from 150 or 130 on, the TUG from 130 on
        met("the GANG's, all of it", x, 0, 40, 40, 0, 0, 100, 150);
        met("the TUGS'", x, 4, 20, 0, 20, 0, 100, 130);
        met("both'", x, 5, 20, 0, 0, 20, 100, 130);
        x.call(200, 1, 101);
        met("no WAITING counts for none", x, 5 + 16, 20, 0, 0, 20, 100, 130, 200);
    }

    private static void tugsFreeFirst() {
        QuayRopes x = Due.port(SHORE + "gang 5 0; gang 5 0; gang 5 0; gang 5 0; tugs 2;");
        x.call(0, 1, 1001);
        x.call(0, 1, 101);
        x.call(20, 1, 101);
        x.call(25, 1, 101);
        // the third takes the TUG free from 10 on, so that the fourth waits till 30, not till 100
        met("free first", x, 0 + 4 + 32 + 192, 5, 0, 5, 0, 0, 0, 20, 30);
        x.call(120, 1, 102);
        met("both are free", x, 0 + 4 + 32 + 192 + 256, 5, 0, 5, 0, 0, 0, 20, 30, 120);
    }

    /** CALLS are met in the order of their numbers, not of their minutes. */
    private static void inTheirOrder() {
        QuayRopes x = Due.port(SHORE + "gang 5 0; gang 9 0; tugs 1;");
        x.call(500, 1, 1001);
        x.call(0, 1, 101);
        met("the later one first", x, 0, 600, 0, 0, 600, 500, 600);
        met("the later one first", x, 4, 600, 0, 600, 0, 500, 600);
    }

    private static void lawful() {
        QuayRopes x = Due.port(SHORE + "gang 5 0; gang 9 0; gang 12 0; tugs 2;");
        x.call(0, 9, 102);
        x.call(0, 5, 102);
        Due.is("19: men enough", x.met(1, 0), 10);
        Due.is("19: men too few", x.met(0, 0), NONE);
        Due.is("19: men too few", x.pay(0, 1), NONE);
        Due.is("19: no such GANG", x.met(3, 0), NONE);
        Due.is("19: no such GANG", x.met(2 + 12, 0), NONE);
        Due.is("19: the second CALL's", x.met(2 + 8, 0), 10);
        for (int row : new int[] {-1, -15, 16 + 1, 64 + 1, 256 + 1, 4096 + 1, 65536 + 1, MIN, MAX, MIN + 1}) {
            Due.is("19: met(" + row + ", 0)", x.met(row, 0), NONE);
            Due.is("21: pay(" + row + ", 1)", x.pay(row, 1), NONE);
        }
        x.call(0, 13, 10);
        for (int row = 0; row < 64; row++) Due.is("19: no GANG has 13", x.met(row, 0), NONE);
        Due.is("20: no GANG has 13", x.least(), NONE);
        x = Due.port(SHORE + "gang 5 0; gang 9 0; tugs 2;");
        x.call(0, 1, 12);
        x.call(0, 1, 13);
        Due.is("19: TUGS too few", x.met(0, 0), NONE);
        Due.is("20: TUGS too few", x.least(), NONE);
    }

    private static void leastRow() {
        QuayRopes x = Due.port(SHORE + "gang 5 60; gang 5 60; gang 9 0;");
        x.call(0, 1, 100);
        Due.is("20: of like ones the least", x.least(), 0);
        x.call(0, 1, 100);
        Due.is("20: the first of two, the second of one", x.least(), 1);
        x.call(0, 6, 100);
        Due.is("20: only the last has 6", x.least(), 1 + 32);
        x.call(0, 6, 100);
        Due.is("20: the last twice", x.least(), 1 + 32 + 128);
        Due.is("20: WAITED", x.met(1 + 32 + 128, 0), 10);
        // a ROW that is greater, but WAITED less in all: the first GANG is kept for what comes later
        x = Due.port(SHORE + "gang 9 0; gang 5 100;");
        x.call(0, 9, 2000);
        x.call(50, 1, 10);
        Due.is("20: the greater one", x.least(), 4);
        for (int i = 0; i < 4; i++) x.call(50, 1, 10);
        // the second GANG takes two: 101 for the one, 150, 151 and 152 for the others; which two is alike
        Due.is("20: six, of like ones the least", x.least(), 4 + 16);
        Due.is("20: six, WAITED", x.met(4 + 16, 0), 101 + 150 + 151 + 152);
        Due.is("20: six, WAITED", x.met(4 + 256, 0), 101 + 150 + 151 + 152);
    }

    private static void withoutCalls() {
        QuayRopes x = Due.port(SHORE);
        met("no CALLS", x, 0, 0, 0, 0, 0);
        Due.is("19: no digits", x.met(1, 0), NONE);
        Due.is("20: no CALLS", x.least(), 0);
        Due.is("21: no GANG", x.pay(0, 0), NONE);
        Due.is("21: no CALLS", Due.port(SHORE + "gang 1 0; pay 9 9 9;").pay(0, 0), 0);
    }

    private static void paid() {
        QuayRopes x = Due.port(SHORE + "gang 5 60; gang 9 0; pay 10 2 3;");
        x.call(400, 1, 300);
        x.call(401, 1, 100);
        // from 400 to 430 and 60 of SLEEP: 89 minutes WAITED are 6 quarters
        Due.is("21: six quarters", x.pay(0, 0), 10 + 10 + 12);
        Due.is("21: another GANG", x.pay(0, 1), 0);
        Due.is("21: each its own", x.pay(4, 0), 10);
        Due.is("21: each its own", x.pay(4, 1), 10);
        // 29 minutes are 2 quarters
        Due.is("21: two quarters", x.pay(5, 1), 10 + 10 + 4);
        x.call(415, 1, 10);
        Due.is("21: one quarter", x.pay(5 + 16, 1), 10 + 10 + 4 + 10 + 2 * 2);
        for (int gang : new int[] {-1, 2, 3, 4, MIN, MAX}) Due.is("21: pay(0, " + gang + ")", x.pay(0, gang), NONE);
        x = Due.port(SHORE + "gang 5 15; gang 5 16; pay 0 7 0;");
        x.call(400, 1, 100);
        x.call(410, 1, 100);
        Due.is("21: 15 minutes", x.pay(0, 0), 7);
        Due.is("21: 16 minutes", x.pay(5, 1), 14);
        x = Due.port(SHORE + "gang 5 15;");
        x.call(0, 1, 2000);
        x.call(0, 1, 2000);
        Due.is("21: no pay", x.pay(0, 0), 0);
    }

    private static void paidAtNight() {
        QuayRopes x = Due.port(SHORE + "gang 5 600; gang 9 0; gang 9 0; gang 9 0; pay 0 0 5;");
        x.call(0, 1, 600);
        Due.is("21: one hour", x.pay(0, 0), 5);
        x.call(0, 1, 610);
        Due.is("21: one hour and a minute", x.pay(4, 1), 10);
        x.call(359, 1, 2000);
        Due.is("21: the last of 360", x.pay(4 + 32, 2), 5);
        x.call(360, 1, 2000);
        Due.is("21: behind 360", x.pay(4 + 32 + 192, 3), 0);
        x = Due.port(SHORE + "gang 5 600; pay 1 1 5;");
        x.call(999, 1, 2000);
        x.call(999, 1, 2000);
        // from 1799 on, 359 of the second day: one minute of it, and 800 WAITED
        Due.is("21: on the second day", x.pay(0, 0), 2 + 54 + 5);
        x.call(999, 1, 10);
        // from 2599 on
        Due.is("21: by day", x.pay(0, 0), 3 + 54 + 107 + 5);
        x = Due.port(SHORE + "gang 5 200; pay 0 0 5;");
        x.call(999, 1, 2000);
        x.call(999, 1, 1000);
        // from 1399 to 1499: 59 minutes of the second day; 42 more would be two hours
        Due.is("21: into the second day", x.pay(0, 0), 5);
        x.call(999, 1, 2000);
        // from 1699 to 1899: 101 minutes of the second day's 360
        Due.is("21: out of the night", x.pay(0, 0), 5 + 10);
        // 999, 1699, 2399, 3099 and 3799: 1699 is 259 of the second day, 3099 is 219 of the third
        x = Due.port(SHORE + "gang 5 600; pay 0 0 5;");
        for (int i = 0; i < 5; i++) x.call(999, 1, 1000);
        Due.is("21: in three days", x.pay(0, 0), 10 + 10);
        int[][] want = {{140, 0}, {141, 0}, {142, 5}, {200, 5}, {201, 5}, {202, 10}, {240, 10}, {241, 10}, {242, 10}};
        for (int[] w : want) Due.is("21: SLEEP " + w[0], atNight(w[0]), w[1]);
    }

    /** C for the second of two CALLS, which begins at 1199 and the SLEEP, and lasts 100. */
    private static int atNight(int sleep) {
        QuayRopes x = Due.port(SHORE + "gang 5 " + sleep + "; pay 0 0 5;");
        x.call(999, 1, 2000);
        x.call(999, 1, 1000);
        return x.pay(0, 0);
    }
}
