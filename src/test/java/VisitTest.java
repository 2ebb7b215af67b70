/** Promises 26 to 33: DEPTH, VISITS, whether they FIT, where they are LAID, FIRST FIT and PLAN. */
public final class VisitTest {
    private static final int NONE = QuayRopes.NONE;
    private static final int MIN = Integer.MIN_VALUE;
    private static final int MAX = Integer.MAX_VALUE;
    private static final String SHORE = "stone 1 1; rope 1 1; ";
    private static final String TIDE = SHORE + "deep 0 200 10; deep 50 100 8; tide 0 1 2 3 2 1;";
    private static final String DEEP = SHORE + "deep 0 200 40;";

    public static void main(String[] args) {
        depths();
        visits();
        fitsByPlaceAndHour();
        fitsByWater();
        fitsByVisits();
        laid();
        about();
        aground();
        firstFit();
        planned();
        plannedByOrder();
        plannedBesideOthers();
        notPlanned();
        Due.end();
    }

    private static void depths() {
        QuayRopes x = Due.port(SHORE + "deep 10 60 5; deep 60 100 9; deep 20 30 3; deep 30 40 0;");
        int[][] want = {{0, 0}, {9, 0}, {10, 5}, {19, 5}, {20, 3}, {29, 3}, {30, 0}, {40, 0}, {41, 5}, {59, 5}, {60, 9}, {100, 9}, {101, 0}, {200, 0}};
        for (int[] w : want) Due.is("26: depth(" + w[0] + ")", x.depth(w[0]), w[1]);
        for (int place : new int[] {-1, 201, MIN, MAX}) Due.is("26: depth(" + place + ")", x.depth(place), NONE);
        Due.is("26: none told", Due.port(SHORE).depth(5), 0);
        Due.is("26: to the end", Due.port(DEEP).depth(200), 40);
    }

    private static void visits() {
        QuayRopes x = Due.port(SHORE);
        int[][] cant = {{999, 101}, {940, 101}, {1000, 101}, {1041, 101}, {15100, 101}, {15101, 101}, {-1, 101}, {-1001, 101}, {0, 101},
            {1001, 100}, {1001, 149}, {1001, 0}, {1001, -1}, {1001, -52}, {1001, 10001}, {1001, 9949}, {MIN, MIN}, {MAX, MAX}, {1001, MIN}, {1001, MAX}};
        for (int[] c : cant) Due.is("27: visit(" + c[0] + ", " + c[1] + ")", x.visit(c[0], c[1]), NONE);
        Due.is("27: none came", x.count(9), 0);
        int[][] can = {{1001, 1}, {15040, 9948}, {1040, 48}, {15001, 9901}, {9999 - 60, 101}};
        for (int i = 0; i < 5; i++) Due.is("27: visit", x.visit(can[i][0], can[i][1]), i);
        Due.is("27: a sixth", x.visit(1001, 1), NONE);
        Due.is("27: VISITS", x.count(9), 5);
        int[] want = {150, 40, 99, 48};
        for (int what = 0; what < 4; what++) Due.is("27: about(1, " + what + ")", x.about(1, what), want[what]);
    }

    private static void fits(QuayRopes x, int visit, int place, int hour, int want) {
        Due.is("28: fits(" + visit + ", " + place + ", " + hour + ")", x.fits(visit, place, hour), want);
    }

    private static void fitsByPlaceAndHour() {
        QuayRopes x = Due.port(DEEP);
        Due.is("28: no VISIT", x.fits(0, 0, 0), NONE);
        x.visit(2009, 105);
        for (int visit : new int[] {-1, 1, 5, MIN, MAX}) fits(x, visit, 0, 1, NONE);
        fits(x, 0, 0, 0, 1);
        fits(x, 0, 0, -1, 1);
        fits(x, 0, 0, MIN, 1);
        fits(x, 0, -1, 0, 1);
        fits(x, 0, 0, 1, 0);
        fits(x, 0, -1, 1, 2);
        fits(x, 0, 180, 1, 0);
        fits(x, 0, 181, 1, 2);
        fits(x, 0, MIN, 1, 2);
        fits(x, 0, MAX, 1, 2);
        fits(x, 0, 7, 199, 0);
        fits(x, 0, 7, 200, 2);
        fits(x, 0, 7, MAX, 2);
        fits(x, 0, 181, 200, 2);
    }

    private static void fitsByWater() {
        QuayRopes x = Due.port(TIDE);
        x.visit(2009, 105);
        fits(x, 0, 29, 1, 0);
        fits(x, 0, 30, 1, 3);
        fits(x, 0, 100, 1, 3);
        fits(x, 0, 101, 1, 0);
        // the least DEPTH 8 and WATER 2 are DRAFT and 1, 8 and 1 are not
        fits(x, 0, 40, 3, 3);
        fits(x, 0, 40, 4, 0);
        fits(x, 0, 40, 5, 4);
        fits(x, 0, 40, 6, 4);
        // in hour 9 it is 2, in hour 14, which is behind the last one, 1
        fits(x, 0, 40, 9, 4);
        fits(x, 0, 40, 10, 3);
        fits(x, 0, 40, 16, 0);
        fits(x, 0, 40, 181, 3);
        fits(x, 0, 40, 185, 4);
        fits(x, 0, 40, 184, 0);
        // what is between the hour laid and that behind the last one is not asked for
        x.visit(2010, 12);
        fits(x, 1, 50, 6, 0);
        fits(x, 1, 50, 8, 3);
        x.visit(2010, 13);
        fits(x, 2, 50, 6, 0);
        fits(x, 2, 50, 7, 4);
        fits(x, 2, 50, 5, 3);
        x = Due.port(SHORE);
        x.visit(2001, 1);
        fits(x, 0, 0, 0, 3);
        // one place alone is too shallow: 50
        x = Due.port(SHORE + "deep 0 200 10; deep 50 51 3; deep 51 60 10;");
        x.visit(2009, 1);
        int[][] want = {{29, 0}, {30, 3}, {40, 3}, {48, 3}, {49, 3}, {50, 3}, {51, 0}};
        for (int[] w : want) fits(x, 0, w[0], 0, w[1]);
    }

    private static void fitsByVisits() {
        QuayRopes x = Due.port(DEEP);
        x.visit(5001, 10);
        x.visit(5001, 10);
        x.visit(3001, 10);
        Due.is("29: lay(0, 100, 20)", x.lay(0, 100, 20), true);
        // it counts as not LAID itself
        fits(x, 0, 100, 20, 0);
        fits(x, 0, 105, 25, 0);
        // from 100 to 150, with 10 on both sides
        fits(x, 1, 100, 20, 50);
        fits(x, 1, 41, 20, 50);
        fits(x, 1, 40, 20, 0);
        fits(x, 2, 159, 20, 50);
        fits(x, 2, 160, 20, 0);
        fits(x, 2, 110, 20, 50);
        fits(x, 1, 60, 20, 50);
        // from 20 to 29
        fits(x, 1, 100, 10, 0);
        fits(x, 1, 100, 11, 50);
        fits(x, 1, 100, 29, 50);
        fits(x, 1, 100, 30, 0);
        // the least of two that are LAID
        Due.is("29: lay(1, 20, 15)", x.lay(1, 20, 15), true);
        fits(x, 2, 75, 20, 50);
        fits(x, 2, 75, 15, 50);
        fits(x, 2, 79, 10, 51);
        fits(x, 2, 79, 30, 0);
        fits(x, 2, 160, 24, 0);
        fits(x, 1, 60, 20, 50);
    }

    private static void laid() {
        QuayRopes x = Due.port(DEEP);
        Due.is("29: none such", x.lay(0, 0, 0), false);
        Due.is("30: none such", x.lift(0), false);
        x.visit(5001, 210);
        x.visit(5001, 210);
        Due.is("30: not LAID", x.lift(0), false);
        Due.is("29: ahead of its coming", x.lay(0, 0, 1), false);
        Due.is("29: no such place", x.lay(0, 151, 2), false);
        Due.is("29: none such", x.lay(2, 0, 2), false);
        Due.is("29: none such", x.lay(-1, 0, 2), false);
        Due.is("29: refused", x.about(0, 4), NONE);
        Due.is("29: lay(0, 150, 2)", x.lay(0, 150, 2), true);
        Due.is("29: place", x.about(0, 4), 150);
        Due.is("29: hour", x.about(0, 5), 2);
        Due.is("29: too near", x.lay(1, 91, 2), false);
        Due.is("29: lay(1, 90, 2)", x.lay(1, 90, 2), true);
        Due.is("29: in place of where it was", x.lay(1, 85, 5), true);
        Due.is("29: place", x.about(1, 4), 85);
        Due.is("29: hour", x.about(1, 5), 5);
        Due.is("29: too near", x.lay(0, 140, 14), false);
        Due.is("29: stays where it was", x.about(0, 4), 150);
        Due.is("30: lift(1)", x.lift(1), true);
        Due.is("30: place", x.about(1, 4), NONE);
        Due.is("30: hour", x.about(1, 5), NONE);
        Due.is("30: lift(1)", x.lift(1), false);
        Due.is("30: its place is free", x.lay(0, 90, 2), true);
        for (int visit : new int[] {-1, 2, 5, MIN, MAX}) Due.is("30: lift(" + visit + ")", x.lift(visit), false);
    }

    private static void about() {
        QuayRopes x = Due.port(DEEP);
        Due.is("31: none such", x.about(0, 0), NONE);
        x.visit(12340 / 100 * 100 + 17, 5634);
        int[] want = {123, 17, 56, 34, NONE, NONE, NONE};
        for (int what = 0; what < 7; what++) Due.is("31: about(0, " + what + ")", x.about(0, what), want[what]);
        Due.is("31: lay(0, 0, 56)", x.lay(0, 0, 56), true);
        int[] then = {123, 17, 56, 34, 0, 56, 0};
        for (int what = 0; what < 7; what++) Due.is("31: about(0, " + what + ")", x.about(0, what), then[what]);
        for (int what : new int[] {-1, 7, MIN, MAX}) Due.is("31: about(0, " + what + ")", x.about(0, what), NONE);
        for (int visit : new int[] {-1, 1, 5, MIN, MAX}) Due.is("31: about(" + visit + ", 0)", x.about(visit, 0), NONE);
    }

    private static void aground() {
        QuayRopes x = Due.port(TIDE);
        x.visit(2010, 12);
        Due.is("31: not LAID", x.about(0, 6), NONE);
        Due.is("31: lay(0, 50, 6)", x.lay(0, 50, 6), true);
        // 8 and WATER are 11, 10, 9, 8, 9, 10 for two hours each: below 10 in six of them
        Due.is("31: AGROUND", x.about(0, 6), 6);
        Due.is("31: lay(0, 0, 6)", x.lay(0, 0, 6), true);
        Due.is("31: where it is deep", x.about(0, 6), 0);
        x.visit(2010, 37);
        Due.is("31: lay(1, 80, 6)", x.lay(1, 80, 6), true);
        Due.is("31: three times", x.about(1, 6), 18);
        x.visit(2010, 1);
        Due.is("31: lay(2, 150, 7)", x.lay(2, 150, 7), true);
        Due.is("31: one hour", x.about(2, 6), 0);
        x = Due.port(SHORE + "deep 0 200 10; tide 9 0 1 9 9 2;");
        x.visit(2011, 6);
        Due.is("31: lay(0, 0, 1)", x.lay(0, 0, 1), true);
        // 9 in hours 0 and 1, then 0 for two hours, then 1 for two
        Due.is("31: two hours", x.about(0, 6), 2);
        Due.is("31: lay(0, 0, 6)", x.lay(0, 0, 6), true);
        Due.is("31: none", x.about(0, 6), 0);
    }

    private static void firstFit() {
        QuayRopes x = Due.port(TIDE);
        Due.is("32: none such", x.firstFit(0), NONE);
        x.visit(2009, 105);
        Due.is("32: at once", x.firstFit(0), 1000);
        Due.is("32: lay(0, 5, 1)", x.lay(0, 5, 1), true);
        Due.is("32: it is LAID", x.firstFit(0), NONE);
        x.visit(2009, 105);
        // from 5 to 25 and 10; at 40 and more it is not deep enough till 101
        Due.is("32: beside it", x.firstFit(1), 1110);
        x.visit(9009, 105);
        // 110 and more have room for 90 in all hours
        Due.is("32: longer", x.firstFit(2), 1110);
        x.visit(15009, 105);
        // 150 at 0 .. 50 has the least DEPTH 8 along it, and wants WATER 2, as in hours 4 and 9: 40 is beside the first
        Due.is("32: longer still", x.firstFit(3), 4040);
        x.lay(0, 25, 1);
        // beside 25 to 45 there is no room; in hour 16 and 21 the WATER is as high again
        Due.is("32: no room beside it", x.firstFit(3), 16000);
        x.visit(15012, 101);
        Due.is("32: never deep enough", x.firstFit(4), NONE);
        for (int visit : new int[] {-1, 5, MIN, MAX}) Due.is("32: firstFit(" + visit + ")", x.firstFit(visit), NONE);
        x = Due.port(SHORE + "deep 0 200 10;");
        for (int i = 0; i < 5; i++) x.visit(i == 4 ? 1009 : 15009, 9948);
        for (int i = 0; i < 3; i++) Due.is("32: lay", x.lay(i, 0, 99 + 48 * i), true);
        // the last hour in which it can be LAID is 199: 195 to 242 is LAID, too
        Due.is("32: beside", x.firstFit(4), 99160);
        Due.is("32: too late", x.firstFit(3), NONE);
        x.lift(2);
        Due.is("32: in time", x.firstFit(3), 195000);
        x.lift(1);
        Due.is("32: lay", x.lay(1, 0, 151), true);
        Due.is("32: in the last hour", x.firstFit(3), 199000);
        Due.is("32: lay", x.lay(1, 0, 152), true);
        Due.is("32: no more", x.firstFit(3), NONE);
        // the last place along it counts
        x = Due.port(SHORE + "deep 0 200 10; deep 50 200 5; deep 120 200 10;");
        x.visit(5009, 1);
        Due.is("32: not at 0", x.firstFit(0), 120);
        x.visit(4909, 1);
        Due.is("32: at 0", x.firstFit(1), 0);
        x = Due.port(SHORE + "deep 190 200 10;");
        x.visit(1009, 1);
        Due.is("32: the last place", x.firstFit(0), 190);
        // where there is water enough without any DEPTH, it must be on the quay all the same
        x = Due.port(SHORE + "tide 9 9 9 9 9 9;");
        x.visit(15001, 5);
        x.visit(4101, 5);
        Due.is("32: lay(0, 0, 0)", x.lay(0, 0, 0), true);
        Due.is("32: 41 are too long beside 150", x.firstFit(1), 5000);
        x.visit(4001, 5);
        Due.is("32: 40 are not", x.firstFit(2), 160);
    }

    private static void planned() {
        QuayRopes x = Due.port(DEEP);
        Due.is("33: no VISITS", x.plan(NONE), 0);
        Due.is("33: no VISITS", x.plan(0), NONE);
        x.visit(15001, 10);
        x.visit(15001, 5);
        // one behind the other: the shorter one first
        Due.is("33: WAITED", x.plan(NONE), 5);
        Due.is("33: VISIT 0", x.plan(0), 5000);
        Due.is("33: VISIT 1", x.plan(1), 0);
        for (int k : new int[] {-2, 2, 5, MIN, MAX}) Due.is("33: plan(" + k + ")", x.plan(k), NONE);
        Due.is("33: nothing is LAID by it", x.about(0, 5), NONE);
        Due.is("33: nothing is LAID by it", x.lift(1), false);
        x.visit(4001, 10);
        // 40 at 160 lie beside 150
        Due.is("33: WAITED", x.plan(NONE), 5);
        Due.is("33: VISIT 2", x.plan(2), 160);
    }

    private static void plannedByOrder() {
        QuayRopes x = Due.port(DEEP);
        x.visit(15001, 107);
        x.visit(15001, 107);
        x.visit(15001, 107);
        Due.is("33: of like ones the first order", x.plan(NONE), 7 + 14);
        for (int k = 0; k < 3; k++) Due.is("33: VISIT " + k, x.plan(k), (1 + 7 * k) * 1000);
        x.visit(15001, 3);
        x.visit(15001, 2003);
        // the fourth, the first three and the last one behind it; that one ahead of the third would be 33
        Due.is("33: of five", x.plan(NONE), 2 + 9 + 16 + 4);
        int[] want = {3000, 10000, 17000, 0, 24000};
        for (int k = 0; k < 5; k++) Due.is("33: of five, VISIT " + k, x.plan(k), want[k]);
    }

    private static void plannedBesideOthers() {
        QuayRopes x = Due.port(DEEP);
        x.visit(15001, 10);
        x.visit(15001, 5);
        x.lay(1, 30, 3);
        // what is LAID stays, and its WAITING counts for none
        Due.is("33: beside one", x.plan(NONE), 8);
        Due.is("33: VISIT 0", x.plan(0), 8000);
        Due.is("33: VISIT 1", x.plan(1), 3030);
        x.lay(0, 50, 90);
        Due.is("33: all LAID", x.plan(NONE), 0);
        Due.is("33: VISIT 0", x.plan(0), 90050);
        Due.is("33: VISIT 1", x.plan(1), 3030);
        x.lift(1);
        Due.is("33: one lifted", x.plan(1), 0);
        Due.is("33: the other stays", x.about(0, 4), 50);
    }

    private static void notPlanned() {
        QuayRopes x = Due.port(TIDE);
        x.visit(2009, 101);
        x.visit(15012, 101);
        for (int k = -1; k < 2; k++) Due.is("33: one has no FIRST FIT", x.plan(k), NONE);
        x.lay(0, 0, 1);
        for (int k = -1; k < 2; k++) Due.is("33: though one is LAID", x.plan(k), NONE);
        // in one order there is room for both, in the other not
        x = Due.port(SHORE + "deep 0 200 10;");
        for (int i = 0; i < 4; i++) x.visit(15009, 9948);
        x.visit(15009, 9908);
        x.lay(0, 0, 99);
        x.lay(1, 0, 147);
        // hour 195 on is left: for 4 hours of it, if the short one came first
        Due.is("33: no order", x.plan(NONE), NONE);
        x.lift(0);
        Due.is("33: no order", x.plan(NONE), NONE);
        x.lay(2, 0, 195);
        x.lay(0, 0, 99);
        Due.is("33: no room", x.plan(4), NONE);
    }
}
