/** The edges that section 5 of the document (DEPTH, VISITS, FITS, PLAN) and promises 26 to 33 name, a sentence at a time. */
public final class VisitEdgeTest {
    private static final int NONE = QuayRopes.NONE;
    private static final int MIN = Integer.MIN_VALUE;
    private static final int MAX = Integer.MAX_VALUE;
    private static final String SHORE = "stone 1 1; rope 1 1; ";
    private static final String DEEP = SHORE + "deep 0 200 40;";
    // all the quay is 10 deep, and the WATER is the same for two hours each of twelve
    private static final String TIDE = SHORE + "deep 0 200 10; tide 0 1 2 9 2 1;";

    public static void main(String[] args) {
        depths();
        visits();
        laidAt();
        aheadOfItsComing();
        noSuchPlaceOrHour();
        tooShallow();
        inCommon();
        firstOfThese();
        aground();
        firstFits();
        plans();
        leastPlan();
        firstOrder();
        noPlan();
        depthTold();
        depthRefused();
        visitComes();
        visitRefused();
        fitsTold();
        fitsRefused();
        layTrue();
        layFalse();
        liftTrue();
        liftFalse();
        aboutTold();
        aboutRefused();
        firstFitTold();
        firstFitRefused();
        planTold();
        planRefused();
        Due.end();
    }

    private static QuayRopes visits(String text, int... sizesAndTimes) {
        QuayRopes x = Due.port(text);
        for (int i = 0; i < sizesAndTimes.length; i += 2) {
            Due.is("visit(" + sizesAndTimes[i] + ", " + sizesAndTimes[i + 1] + ")", x.visit(sizesAndTimes[i], sizesAndTimes[i + 1]), i / 2);
        }
        return x;
    }

    private static void fits(QuayRopes x, int visit, int place, int hour, int want) {
        Due.is("fits(" + visit + ", " + place + ", " + hour + ")", x.fits(visit, place, hour), want);
    }

    private static void lay(QuayRopes x, int visit, int place, int hour) {
        Due.is("lay(" + visit + ", " + place + ", " + hour + ")", x.lay(visit, place, hour), true);
    }

    private static void depths() {
        Due.says("terms 5", "The DEPTH at a place (0 .. 200) is that of the last STRETCH told that has it within or at its ends, 0 without.");
        QuayRopes x = Due.port(SHORE + "deep 10 60 5; deep 60 100 9; deep 20 30 3; deep 30 40 0;");
        for (int place = 0; place <= 200; place++) {
            int want = place < 10 || place > 100 ? 0 : place >= 60 ? 9 : place >= 30 && place <= 40 ? 0 : place >= 20 && place < 30 ? 3 : 5;
            Due.is("depth(" + place + ")", x.depth(place), want);
        }
        // it is the last told, not the deepest, the least or the shortest
        x = Due.port(SHORE + "deep 50 51 40; deep 0 200 7; deep 199 200 1; deep 0 1 2;");
        int[][] want = {{0, 2}, {1, 2}, {2, 7}, {50, 7}, {51, 7}, {198, 7}, {199, 1}, {200, 1}};
        for (int[] w : want) Due.is("depth(" + w[0] + ")", x.depth(w[0]), w[1]);
        for (int place = 0; place <= 200; place += 50) Due.is("none told", Due.port(SHORE).depth(place), 0);
    }

    private static void visits() {
        Due.says("terms 5", "VISITS (at most 5, numbers as they come) have a length (10 .. 150), a DRAFT (1 .. 40), the hour they come (0 .. 99) and for how many hours they stay (1 .. 48).");
        QuayRopes x = visits(SHORE, 1001, 1, 15040, 9948, 1040, 9901, 15001, 48, 9920, 5024);
        Due.is("at most 5", x.visit(1001, 1), NONE);
        int[][] want = {{10, 1, 0, 1}, {150, 40, 99, 48}, {10, 40, 99, 1}, {150, 1, 0, 48}, {99, 20, 50, 24}};
        for (int i = 0; i < 5; i++) {
            for (int what = 0; what < 4; what++) Due.is("about(" + i + ", " + what + ")", x.about(i, what), want[i][what]);
        }
        for (int n = 0; n <= 160; n++) came("length " + n, n * 100 + 1, 1, n >= 10 && n <= 150);
        for (int n = 0; n <= 99; n++) came("DRAFT " + n, 1000 + n, 1, n >= 1 && n <= 40);
        for (int n = 0; n <= 110; n++) came("hour " + n, 1001, n * 100 + 1, n <= 99);
        for (int n = 0; n <= 99; n++) came("stay " + n, 1001, n, n >= 1 && n <= 48);
    }

    private static void came(String what, int size, int time, boolean can) {
        QuayRopes x = Due.port(SHORE);
        Due.is(what, x.visit(size, time), can ? 0 : NONE);
    }

    private static void laidAt() {
        Due.says("terms 5", "LAID is one at a place (0 .. 200 less the length; from it to it and the length) from an hour on (0 .. 199).");
        for (int length : new int[] {10, 11, 149, 150}) {
            QuayRopes x = visits(DEEP, length * 100 + 1, 1);
            for (int place : new int[] {0, 1, 199 - length, 200 - length}) {
                Due.is("at " + place, x.lay(0, place, 0), true);
                Due.is("its place", x.about(0, 4), place);
            }
            for (int place : new int[] {-1, 201 - length, 200, 201, MIN, MAX}) {
                Due.is("at " + place, x.lay(0, place, 0), false);
                Due.is("its place", x.about(0, 4), 200 - length);
            }
            for (int hour = 0; hour <= 201; hour += hour < 2 || hour > 197 ? 1 : 28) {
                Due.is("from " + hour + " on", x.lay(0, 0, hour), hour <= 199);
                Due.is("its hour", x.about(0, 5), Math.min(hour, 199));
            }
        }
        // from it to it and the length: both ends must be deep enough
        // places 100 and 150 alone are too shallow
        QuayRopes x = visits(SHORE + "deep 0 200 10; deep 100 150 1; deep 101 149 10;", 2009, 1, 4709, 1, 4809, 1, 4909, 1);
        for (int place = 70; place <= 160; place++) fits(x, 0, place, 0, place < 80 || place > 100 && place < 130 || place > 150 ? 0 : 3);
        fits(x, 2, 101, 0, 0);
        fits(x, 3, 101, 0, 3);
        fits(x, 1, 101, 0, 0);
        fits(x, 1, 102, 0, 0);
        fits(x, 1, 103, 0, 3);
    }

    private static void aheadOfItsComing() {
        Due.says("terms 5", "It does not FIT, by the first of these that holds: 1 the hour is ahead of its coming;");
        for (int comes : new int[] {0, 1, 98, 99}) {
            QuayRopes x = visits(DEEP, 1001, comes * 100 + 1);
            for (int hour = comes - 3; hour <= comes + 3; hour++) fits(x, 0, 0, hour, hour < comes ? 1 : 0);
            fits(x, 0, 0, MIN, 1);
            fits(x, 0, 0, 199, 0);
        }
    }

    private static void noSuchPlaceOrHour() {
        Due.says("terms 5", "2 it can't be at that place or hour;");
        QuayRopes x = visits(DEEP, 2001, 9901);
        for (int place = -2; place <= 202; place++) fits(x, 0, place, 99, place < 0 || place > 180 ? 2 : 0);
        for (int place : new int[] {MIN, MAX, MAX - 19, MIN + 181}) fits(x, 0, place, 99, 2);
        for (int hour = 99; hour <= 202; hour++) fits(x, 0, 0, hour, hour > 199 ? 2 : 0);
        for (int hour : new int[] {MAX, MAX - 1, 4096}) fits(x, 0, 0, hour, 2);
    }

    private static void tooShallow() {
        Due.says("terms 5", "3 in the hour in which it is laid, or 4 in that behind its last one, the least DEPTH of all places along it and WATER is less than DRAFT and 1;");
        int[] waters = {0, 1, 2, 9, 2, 1};
        for (int stays : new int[] {1, 2, 11, 12, 47, 48}) {
            QuayRopes x = visits(TIDE, 1009, stays, 1010, stays, 1011, stays, 1018, stays, 1019, stays);
            int[] drafts = {9, 10, 11, 18, 19};
            for (int hour = 0; hour <= 199; hour += hour < 25 || hour > 185 ? 1 : 7) {
                for (int v = 0; v < 5; v++) {
                    boolean first = 10 + waters[hour % 12 / 2] < drafts[v] + 1;
                    boolean behind = 10 + waters[(hour + stays) % 12 / 2] < drafts[v] + 1;
                    fits(x, v, 0, hour, first ? 3 : behind ? 4 : 0);
                }
            }
        }
        // of all places along it: one alone is less deep
        QuayRopes x = visits(SHORE + "deep 0 200 10; deep 50 51 3; deep 51 52 10;", 1009, 1);
        for (int place = 30; place <= 60; place++) fits(x, 0, place, 0, place >= 40 && place <= 50 ? 3 : 0);
        // what is between the first hour and that behind the last one is not asked
        x = visits(TIDE, 1010, 5, 1010, 6, 1010, 15, 1018, 1);
        fits(x, 0, 0, 8, 4);
        fits(x, 0, 0, 10, 0);
        fits(x, 1, 0, 10, 0);
        fits(x, 2, 0, 11, 0);
        fits(x, 3, 0, 6, 0);
        fits(x, 3, 0, 7, 4);
        fits(x, 3, 0, 8, 3);
    }

    private static void inCommon() {
        Due.says("terms 5", "50 and a number: a VISIT that is LAID (the least such) has an hour in common, and less than 10 are between both (hours are those from the first to the last in which it lies).");
        QuayRopes x = visits(DEEP, 5001, 10, 2001, 5, 2001, 1);
        lay(x, 0, 80, 50);
        // it lies from 80 to 130 and in hours 50 to 59
        for (int place = 0; place <= 180; place++) fits(x, 1, place, 55, place > 50 && place < 140 ? 50 : 0);
        for (int hour = 40; hour <= 65; hour++) {
            fits(x, 1, 80, hour, hour > 45 && hour < 60 ? 50 : 0);
            fits(x, 2, 80, hour, hour >= 50 && hour < 60 ? 50 : 0);
            fits(x, 1, 140, hour, 0);
            fits(x, 1, 50, hour, 0);
        }
        // one that is not LAID is in nobody's way, one that was lifted neither
        x.lift(0);
        fits(x, 1, 80, 55, 0);
        // the least of those that are in its way
        x = visits(DEEP, 1001, 5, 1001, 5, 1001, 5, 1001, 5, 15001, 5);
        for (int i = 0; i < 4; i++) lay(x, i, 190 - 40 * i, 10);
        fits(x, 4, 50, 10, 50);
        fits(x, 4, 31, 10, 50);
        fits(x, 4, 30, 10, 51);
        x.lift(1);
        fits(x, 4, 29, 10, 52);
        fits(x, 4, 0, 14, 52);
        fits(x, 4, 0, 15, 0);
        fits(x, 4, 0, 5, 0);
        fits(x, 4, 0, 6, 52);
        // beyond hour 199 it lies, too
        x = visits(DEEP, 15001, 48, 15001, 48);
        lay(x, 0, 0, 152);
        fits(x, 1, 0, 199, 50);
        lay(x, 0, 0, 151);
        fits(x, 1, 0, 199, 0);
    }

    private static void firstOfThese() {
        Due.says("terms 5", "It does not FIT, by the first of these that holds:");
        QuayRopes x = visits(SHORE + "deep 0 100 10; tide 9 9 0 0 0 0;", 1009, 1, 1018, 501, 1009, 9905);
        lay(x, 0, 0, 0);
        x.visit(1009, 9);
        x.visit(1040, 9);
        // 1 ahead of 2 and 3; 2 ahead of 3; 3 ahead of 4 and 50; 4 ahead of 50
        fits(x, 2, 500, 98, 1);
        fits(x, 2, -1, -1, 1);
        fits(x, 1, 190, 4, 1);
        fits(x, 1, 191, 5, 2);
        fits(x, 1, 190, 5, 3);
        fits(x, 1, 190, 200, 2);
        fits(x, 4, 0, 0, 3);
        fits(x, 3, 0, 0, 50);
        x = visits(SHORE + "deep 0 100 10; tide 9 0 0 0 0 0;", 1010, 1, 1010, 5);
        lay(x, 0, 0, 0);
        fits(x, 1, 0, 0, 4);
        fits(x, 1, 91, 0, 3);
        fits(x, 0, 0, 0, 0);
    }

    private static void aground() {
        Due.says("terms 5", "AGROUND are the hours in which one that is LAID lies with that least DEPTH and WATER less than its DRAFT.");
        // 10 and WATER: 10, 11, 12, 19, 12, 11 for two hours each
        int[] waters = {0, 1, 2, 9, 2, 1};
        for (int draft = 9; draft <= 18; draft += 1 + draft % 2) {
            for (int stays : new int[] {1, 2, 12, 13, 48}) {
                QuayRopes x = visits(TIDE, 1000 + draft, stays);
                for (int hour = 0; hour < 26; hour++) {
                    if (!x.lay(0, 100, hour)) continue;
                    int want = 0;
                    for (int h = hour; h < hour + stays; h++) if (10 + waters[h % 12 / 2] < draft) want++;
                    Due.is("DRAFT " + draft + " for " + stays + " from " + hour, x.about(0, 6), want);
                }
            }
        }
        // 12 hours from hour 6 on, with 19 and 12 ahead of the least: 12 is enough, 11 and 10 are not
        QuayRopes x = visits(TIDE, 1012, 12, 1018, 12, 1018, 13);
        lay(x, 0, 0, 6);
        Due.is("six hours", x.about(0, 6), 6);
        lay(x, 1, 50, 6);
        Due.is("all but two", x.about(1, 6), 10);
        lay(x, 2, 100, 6);
        Due.is("all but three", x.about(2, 6), 10);
        // from the hour on in which it is laid, not ahead of that
        x = visits(SHORE + "deep 0 200 10; tide 9 0 1 9 9 2;", 2011, 6);
        lay(x, 0, 0, 1);
        Due.is("in hours 2 and 3", x.about(0, 6), 2);
        lay(x, 0, 0, 6);
        Due.is("in none", x.about(0, 6), 0);
        lay(x, 0, 0, 7);
        Due.is("in none, 12 hours on", x.about(0, 6), 0);
        lay(x, 0, 0, 12);
        Due.is("in hours 14 and 15", x.about(0, 6), 2);
        // beyond hour 199, and by the least DEPTH along it
        x = visits(SHORE + "deep 0 200 12; deep 30 31 10; tide 0 1 2 9 2 1;", 2012, 36, 2009, 36);
        lay(x, 0, 0, 198);
        Due.is("12 deep", x.about(0, 6), 0);
        Due.is("10 deep: laid", x.lay(0, 20, 198), true);
        Due.is("10 deep: three times six", x.about(0, 6), 18);
        lay(x, 1, 100, 0);
        Due.is("never", x.about(1, 6), 0);
    }

    private static void firstFits() {
        Due.says("terms 5", "Its FIRST FIT is the least hour, then the least place (0, 10, 20, ..), at which it FITS beside those that are LAID.");
        QuayRopes x = visits(DEEP, 1501, 7, 2001, 5, 15001, 9901);
        Due.is("at once", x.firstFit(0), 0);
        lay(x, 0, 0, 0);
        // from 0 to 15, so that 30 is the first place beside it, 25 is none
        Due.is("beside it", x.firstFit(1), 30);
        lay(x, 0, 1, 2);
        Due.is("ahead of it there is no room", x.firstFit(1), 30);
        lay(x, 0, 30, 2);
        Due.is("ahead of it there is", x.firstFit(1), 0);
        Due.is("in hour 99", x.firstFit(2), 99000);
        // the hour comes ahead of the place
        lay(x, 0, 100, 0);
        x.visit(15001, 3);
        Due.is("behind it", x.firstFit(3), 7000);
        lastPlaces();
        lastHours();
    }

    /** By ten from 0 to 200 less the length: what is deep behind that is no place. */
    private static void lastPlaces() {
        int[] lengths = {10, 11, 19, 20, 21, 149, 150};
        int[] last = {190, 180, 180, 180, 170, 50, 50};
        for (int i = 0; i < lengths.length; i++) {
            QuayRopes x = visits(SHORE + "deep " + last[i] + " 200 5;", lengths[i] * 100 + 1, 1);
            Due.is("length " + lengths[i], x.firstFit(0), last[i]);
            x = visits(SHORE + "deep " + (last[i] + 1) + " 200 5;", lengths[i] * 100 + 1, 1);
            Due.is("length " + lengths[i] + ", one less", x.firstFit(0), NONE);
        }
        // with WATER enough where there is no DEPTH it must be on the quay all the same: behind 150 and 10 there is room for 40
        for (int length = 38; length <= 42; length++) {
            QuayRopes x = visits(SHORE + "tide 9 9 9 9 9 9;", 15001, 5, length * 100 + 1, 5);
            lay(x, 0, 0, 0);
            Due.is("length " + length + " beside 150", x.firstFit(1), length <= 40 ? 160 : 5000);
        }
        // place by place
        for (int place = 0; place <= 190; place++) {
            QuayRopes x = visits(SHORE + "deep " + place + " " + (place + 10) + " 5;", 1001, 9801);
            Due.is("at " + place, x.firstFit(0), place % 10 == 0 ? 98000 + place : NONE);
        }
    }

    /** Up to hour 199. */
    private static void lastHours() {
        QuayRopes x = visits(DEEP, 15001, 48, 15001, 48, 15001, 48, 15001, 9948, 15001, 9901);
        for (int i = 0; i < 3; i++) lay(x, i, 0, 51 + 48 * i);
        lay(x, 3, 0, 195);
        Due.is("till the end", x.firstFit(4), NONE);
        lay(x, 3, 0, 199);
        Due.is("between", x.firstFit(4), 195000);
        lay(x, 3, 0, 195);
        x.lift(2);
        Due.is("for 48 between", x.firstFit(2), 0);
        Due.is("between", x.firstFit(4), 147000);
        // by WATER: 9 in hours 10 and 11 of 12 alone, the last time in 190 and 191
        x = visits(SHORE + "deep 0 200 10; tide 0 0 0 0 0 9;", 1018, 9901, 1018, 9902, 1018, 9912);
        Due.is("for an hour", x.firstFit(0), 106000);
        Due.is("for two", x.firstFit(1), NONE);
        Due.is("for twelve", x.firstFit(2), 106000);
        for (int i = 0; i < 2; i++) lay(x, 2 * i, 0, i == 0 ? 190 : 106);
        Due.is("LAID in the last", x.about(0, 5), 190);
    }

    private static void plans() {
        Due.says("terms 5", "A PLAN takes all VISITS that aren't LAID in some order, each at its FIRST FIT then; WAITED are the hours from coming to that.");
        QuayRopes x = visits(DEEP, 15001, 110, 15001, 305);
        // 0 from hour 1 on, 1 from 11 on: 8; 1 from 3 on, 0 from 8 on: 7
        Due.is("WAITED", x.plan(NONE), 7);
        Due.is("VISIT 0", x.plan(0), 8000);
        Due.is("VISIT 1", x.plan(1), 3000);
        // what is LAID stays where it is, and has WAITED nothing
        lay(x, 0, 50, 9);
        Due.is("WAITED beside one", x.plan(NONE), 0);
        Due.is("VISIT 0", x.plan(0), 9050);
        Due.is("VISIT 1", x.plan(1), 3000);
        lay(x, 0, 50, 7);
        Due.is("WAITED beside one", x.plan(NONE), 14);
        Due.is("VISIT 1", x.plan(1), 17000);
        lay(x, 1, 0, 40);
        Due.is("all are LAID", x.plan(NONE), 0);
        Due.is("VISIT 1", x.plan(1), 40000);
        // side by side, at the first place that is free then
        x = visits(DEEP, 5001, 5, 5001, 5, 5001, 5, 5001, 5);
        int[] want = {0, 60, 120, 5000};
        Due.is("WAITED", x.plan(NONE), 5);
        for (int k = 0; k < 4; k++) Due.is("VISIT " + k, x.plan(k), want[k]);
        for (int k = 0; k < 4; k++) Due.is("nothing is LAID by a PLAN", x.about(k, 5), NONE);
    }

    private static void leastPlan() {
        Due.says("terms 5", "The LEAST PLAN has the least WAITED in all,");
        // the shortest first is least: in the last of all orders
        QuayRopes x = visits(DEEP, 15001, 9, 15001, 7, 15001, 5, 15001, 3, 15001, 1);
        Due.is("WAITED", x.plan(NONE), 1 + 4 + 9 + 16);
        int[] want = {16000, 9000, 4000, 1000, 0};
        for (int k = 0; k < 5; k++) Due.is("VISIT " + k, x.plan(k), want[k]);
        // and in the first of all
        x = visits(DEEP, 15001, 1, 15001, 3, 15001, 5, 15001, 7, 15001, 9);
        Due.is("WAITED", x.plan(NONE), 1 + 4 + 9 + 16);
        for (int k = 0; k < 5; k++) Due.is("VISIT " + k, x.plan(k), k * k * 1000);
        // every one of five may be the one that comes last
        for (int late = 0; late < 5; late++) {
            x = Due.port(DEEP);
            for (int i = 0; i < 5; i++) x.visit(15001, i == late ? 9 : 2);
            Due.is("late " + late + ": WAITED", x.plan(NONE), 2 + 4 + 6 + 8);
            Due.is("late " + late, x.plan(late), 8000);
        }
    }

    private static void firstOrder() {
        Due.says("terms 5", "of like ones the first order (by numbers, the first one's first);");
        QuayRopes x = visits(DEEP, 15001, 4, 15001, 4, 15001, 4, 15001, 4, 15001, 4);
        for (int k = 0; k < 5; k++) Due.is("VISIT " + k, x.plan(k), 4000 * k);
        x.lay(0, 0, 0);
        lay(x, 2, 50, 4);
        int[] want = {0, 8000, 4050, 12000, 16000};
        for (int k = 0; k < 5; k++) Due.is("beside two: VISIT " + k, x.plan(k), want[k]);
        // side by side in any order: the first has the first place
        x = visits(DEEP, 2001, 4, 4001, 4, 2001, 4);
        int[] places = {0, 30, 80};
        for (int k = 0; k < 3; k++) Due.is("VISIT " + k, x.plan(k), places[k]);
        // 1 ahead of 0 and 2, in whichever order those: 0 comes first
        x = visits(DEEP, 15001, 4, 15001, 2, 15001, 4);
        int[] hours = {2000, 0, 6000};
        for (int k = 0; k < 3; k++) Due.is("VISIT " + k, x.plan(k), hours[k]);
    }

    private static void noPlan() {
        Due.says("terms 5", "none, if in each order one has no FIRST FIT.");
        QuayRopes x = Due.port(DEEP);
        Due.is("no VISITS, nothing WAITED", x.plan(NONE), 0);
        x = visits(TIDE, 1001, 5, 1019, 5);
        for (int k = -1; k < 2; k++) Due.is("never deep enough", x.plan(k), NONE);
        lay(x, 0, 0, 0);
        for (int k = -1; k < 2; k++) Due.is("though one is LAID", x.plan(k), NONE);
        // 48 each from 99, 147 and 195 on: behind that there is no hour, but the one of 4 may come first
        x = visits(DEEP, 15001, 9948, 15001, 9948, 15001, 9948, 15001, 9904);
        int[] want = {103000, 151000, 199000, 99000};
        Due.is("in some orders", x.plan(NONE), 4 + 52 + 100);
        for (int k = 0; k < 4; k++) Due.is("VISIT " + k, x.plan(k), want[k]);
        x = visits(DEEP, 15001, 9948, 15001, 9948, 15001, 9948, 15001, 9905);
        // with 5 ahead the last would be in 200: but it may be behind two, from 195 on, and the third from 200 on not
        for (int k = -1; k < 4; k++) Due.is("in no order", x.plan(k), NONE);
    }

    private static void depthTold() {
        Due.says("promise 26", "DEPTH;");
        QuayRopes x = Due.port(SHORE + "deep 0 1 40; deep 199 200 39;");
        int[][] want = {{0, 40}, {1, 40}, {2, 0}, {198, 0}, {199, 39}, {200, 39}};
        for (int[] w : want) Due.is("depth(" + w[0] + ")", x.depth(w[0]), w[1]);
        Due.is("without a STRETCH", Due.port(SHORE).depth(200), 0);
    }

    private static void depthRefused() {
        Due.says("promise 26", "NONE without a PORT, or if there is no such place.");
        for (int place = -1; place <= 201; place += 101) Due.is("no PORT", new QuayRopes().depth(place), NONE);
        QuayRopes x = Due.port(DEEP);
        for (int place : new int[] {-1, -2, 201, 202, MIN, MAX}) Due.is("depth(" + place + ")", x.depth(place), NONE);
    }

    private static void visitComes() {
        Due.says("promise 27", "A VISIT (size is length * 100 and DRAFT, time the hour * 100 and how long it stays): its number;");
        QuayRopes x = Due.port(SHORE);
        for (int i = 0; i < 5; i++) {
            Due.is("visit", x.visit(12300 + 37 - i, 4500 + 6 + i), i);
            int[] want = {123, 37 - i, 45, 6 + i, NONE, NONE, NONE};
            for (int what = 0; what < 7; what++) Due.is("about(" + i + ", " + what + ")", x.about(i, what), want[what]);
        }
        Due.portAnew(x, SHORE);
        Due.is("in a new PORT", x.visit(1001, 1), 0);
        Due.is("it isn't LAID", x.about(0, 4), NONE);
    }

    private static void visitRefused() {
        Due.says("promise 27", "NONE if there is no PORT, it can't be, or 5 came.");
        Due.is("no PORT", new QuayRopes().visit(1001, 1), NONE);
        QuayRopes x = Due.port(SHORE);
        for (int size : new int[] {0, 1, -1, -99, 999, 901, 940, 1000, 1041, 1099, 15000, 15041, 15099, 15100, 15101, 15140, 100001, -1001, -1099, -15001, MIN, MIN + 47, MAX, MAX - 46}) {
            Due.is("visit(" + size + ", 1)", x.visit(size, 1), NONE);
        }
        for (int time : new int[] {0, -1, -52, -99, -100, -101, 49, 99, 100, 149, 9900, 9949, 9999, 10000, 10001, 10048, 1000001, MIN, MIN + 1, MIN + 49, MAX, MAX - 46}) {
            Due.is("visit(1001, " + time + ")", x.visit(1001, time), NONE);
        }
        Due.is("visit(MIN, MIN)", x.visit(MIN, MIN), NONE);
        Due.is("visit(MAX, MAX)", x.visit(MAX, MAX), NONE);
        Due.is("none came", x.count(9), 0);
        for (int i = 0; i < 5; i++) Due.is("visit", x.visit(1001, 1), i);
        for (int i = 0; i < 3; i++) Due.is("5 came", x.visit(1001, 1), NONE);
        // also when one is lifted
        x = visits(DEEP, 1001, 1, 1001, 1, 1001, 1, 1001, 1, 1001, 1);
        lay(x, 4, 0, 0);
        x.lift(4);
        Due.is("5 came", x.visit(1001, 1), NONE);
        Due.is("VISITS", x.count(9), 5);
    }

    private static void fitsTold() {
        Due.says("promise 28", "Whether a VISIT FITS (it counts as not LAID then): 0, or why it doesn't;");
        QuayRopes x = visits(DEEP, 5001, 210, 5001, 210);
        int[][] ways = {{0, 1, 1}, {151, 2, 2}, {0, 2, 0}};
        for (int[] w : ways) fits(x, 0, w[0], w[1], w[2]);
        lay(x, 0, 0, 2);
        // not in its own way, wherever it is LAID
        for (int hour = 2; hour < 20; hour++) for (int place = 0; place <= 150; place += 10) if (hour % 3 == 0) fits(x, 0, place, hour, 0);
        lay(x, 1, 60, 2);
        fits(x, 0, 1, 2, 51);
        fits(x, 0, 0, 2, 0);
        fits(x, 1, 59, 2, 50);
        Due.is("it is asked, not LAID", x.about(1, 4), 60);
    }

    private static void fitsRefused() {
        Due.says("promise 28", "NONE if there is none such.");
        Due.is("no PORT", new QuayRopes().fits(0, 0, 0), NONE);
        QuayRopes x = Due.port(DEEP);
        for (int n = 0; n <= 5; n++) {
            for (int visit : new int[] {-1, n, n + 1, 5, 6, 50, MIN, MAX}) if (visit < 0 || visit >= n) fits(x, visit, 0, 0, NONE);
            x.visit(1001, 1);
        }
        for (int visit : new int[] {-1, 5}) fits(x, visit, -1, 500, NONE);
    }

    private static void layTrue() {
        Due.says("promise 29", "A VISIT is LAID (in place of where it was): true;");
        QuayRopes x = visits(DEEP, 5001, 10, 5001, 10);
        int[][] where = {{0, 0}, {0, 0}, {0, 5}, {30, 5}, {150, 199}, {0, 0}};
        for (int[] w : where) {
            lay(x, 0, w[0], w[1]);
            Due.is("place", x.about(0, 4), w[0]);
            Due.is("hour", x.about(0, 5), w[1]);
        }
        lay(x, 0, 100, 50);
        fits(x, 1, 0, 0, 0);
        fits(x, 1, 100, 50, 50);
    }

    private static void layFalse() {
        Due.says("promise 29", "false if there is none such, or it doesn't FIT.");
        Due.is("no PORT", new QuayRopes().lay(0, 0, 0), false);
        QuayRopes x = Due.port(TIDE);
        Due.is("no VISITS", x.lay(0, 0, 0), false);
        x.visit(5009, 310);
        x.visit(5011, 301);
        x.visit(5009, 301);
        lay(x, 0, 10, 5);
        int[][] cant = {{-1, 100, 5}, {3, 100, 5}, {4, 100, 5}, {MIN, 100, 5}, {MAX, 100, 5}, {0, 10, 2}, {0, -1, 5}, {0, 151, 5}, {0, 10, 200}, {0, MIN, 5}, {0, MAX, 5},
            {0, 10, MIN}, {0, 10, MAX}, {1, 100, 11}, {1, 100, 12}, {1, 100, 13}, {1, 100, 9}, {2, 20, 5}, {2, 69, 14}, {MIN, MIN, MIN}, {MAX, MAX, MAX}};
        for (int[] c : cant) {
            Due.is("lay(" + c[0] + ", " + c[1] + ", " + c[2] + ")", x.lay(c[0], c[1], c[2]), false);
            Due.is("VISIT 0 stays", x.about(0, 4) * 1000 + x.about(0, 5), 10005);
            Due.is("VISIT 1 isn't LAID", x.about(1, 4), NONE);
        }
    }

    private static void liftTrue() {
        Due.says("promise 30", "A VISIT is LAID no more: true;");
        QuayRopes x = visits(DEEP, 1001, 5, 1001, 5, 1001, 5, 1001, 5, 1001, 5);
        for (int i = 0; i < 5; i++) lay(x, i, 40 * i, 0);
        for (int i = 4; i >= 0; i--) {
            Due.is("lift(" + i + ")", x.lift(i), true);
            for (int what = 4; what <= 6; what++) Due.is("about(" + i + ", " + what + ")", x.about(i, what), NONE);
            if (i > 0) Due.is("the others stay", x.about(i - 1, 4), 40 * i - 40);
            lay(x, i, 40 * i, 0);
            x.lift(i);
        }
    }

    private static void liftFalse() {
        Due.says("promise 30", "false if there is none such, or it wasn't.");
        Due.is("no PORT", new QuayRopes().lift(0), false);
        QuayRopes x = visits(DEEP, 1001, 5, 1001, 5);
        for (int visit : new int[] {0, 1, 2, 5, -1, MIN, MAX}) Due.is("lift(" + visit + ")", x.lift(visit), false);
        lay(x, 0, 0, 0);
        for (int visit : new int[] {1, 2, -1}) Due.is("lift(" + visit + ")", x.lift(visit), false);
        Due.is("VISIT 0 stays", x.about(0, 5), 0);
        Due.is("lift(0)", x.lift(0), true);
        Due.is("lift(0) again", x.lift(0), false);
    }

    private static void aboutTold() {
        Due.says("promise 31", "Of a VISIT: 0 its length, 1 DRAFT, 2 the hour it comes, 3 how long it stays, 4 its place and 5 hour (NONE: it isn't LAID), 6 AGROUND (NONE likewise).");
        QuayRopes x = visits(TIDE, 12011, 212, 15001, 9948);
        int[][] want = {{120, 11, 2, 12, 7, 4, 2}, {150, 1, 99, 48, 50, 199, 0}};
        for (int i = 0; i < 2; i++) {
            for (int what = 0; what < 7; what++) Due.is("about(" + i + ", " + what + ") ahead", x.about(i, what), what < 4 ? want[i][what] : NONE);
        }
        lay(x, 0, 7, 4);
        lay(x, 1, 50, 199);
        for (int i = 0; i < 2; i++) {
            for (int what = 0; what < 7; what++) Due.is("about(" + i + ", " + what + ")", x.about(i, what), want[i][what]);
        }
        // at place 0 from hour 0 on it is LAID all the same
        x = visits(DEEP, 1001, 1);
        lay(x, 0, 0, 0);
        for (int what = 4; what < 7; what++) Due.is("about(0, " + what + ")", x.about(0, what), 0);
    }

    private static void aboutRefused() {
        Due.says("promise 31", "NONE for others, or if there is none such.");
        for (int what = -1; what <= 7; what++) Due.is("no PORT", new QuayRopes().about(0, what), NONE);
        QuayRopes x = Due.port(DEEP);
        for (int n = 0; n <= 5; n++) {
            for (int what = 0; what < 7; what++) Due.is("about(" + n + ", " + what + ")", x.about(n, what), NONE);
            x.visit(1001, 1);
            lay(x, n % 5, 20 * (n % 5), 0);
        }
        for (int what : new int[] {-1, 7, 8, MIN, MIN + 4, MAX}) Due.is("about(0, " + what + ")", x.about(0, what), NONE);
        for (int visit : new int[] {-1, 5, 6, MIN, MAX}) Due.is("about(" + visit + ", 0)", x.about(visit, 0), NONE);
    }

    private static void firstFitTold() {
        Due.says("promise 32", "FIRST FIT of a VISIT that isn't LAID: hour * 1000 and place;");
        QuayRopes x = visits(SHORE + "deep 190 200 9;", 1001, 9901, 1001, 9901);
        Due.is("firstFit(0)", x.firstFit(0), 99190);
        lay(x, 0, 190, 99);
        Due.is("firstFit(1)", x.firstFit(1), 100190);
        Due.is("it is told, not LAID", x.about(1, 5), NONE);
        x = visits(DEEP, 1001, 1);
        Due.is("firstFit(0)", x.firstFit(0), 0);
    }

    private static void firstFitRefused() {
        Due.says("promise 32", "NONE if there is none, it is LAID, or there is none such.");
        Due.is("no PORT", new QuayRopes().firstFit(0), NONE);
        QuayRopes x = visits(TIDE, 1019, 1, 1009, 1);
        Due.is("never deep enough", x.firstFit(0), NONE);
        lay(x, 1, 0, 0);
        Due.is("it is LAID", x.firstFit(1), NONE);
        for (int visit : new int[] {-1, 2, 3, 5, MIN, MAX}) Due.is("firstFit(" + visit + ")", x.firstFit(visit), NONE);
        x.lift(1);
        Due.is("it was LAID", x.firstFit(1), 0);
    }

    private static void planTold() {
        Due.says("promise 33", "The LEAST PLAN: WAITED (k NONE), hour * 1000 and place of VISIT k (as it is LAID, if it is);");
        QuayRopes x = visits(SHORE + "deep 40 200 9;", 15001, 9910, 15001, 9909, 1001, 9901);
        lay(x, 2, 190, 120);
        // the shorter stay first, then the other behind it
        Due.is("WAITED", x.plan(NONE), 9);
        int[] want = {108040, 99040, 120190};
        for (int k = 0; k < 3; k++) Due.is("VISIT " + k, x.plan(k), want[k]);
        Due.is("again", x.plan(NONE), 9);
    }

    private static void planRefused() {
        Due.says("promise 33", "NONE if there is none, none such, or no PORT.");
        for (int k = -1; k <= 1; k++) Due.is("no PORT", new QuayRopes().plan(k), NONE);
        QuayRopes x = Due.port(DEEP);
        for (int n = 0; n <= 5; n++) {
            for (int k : new int[] {-2, n, n + 1, 6, MIN, MAX}) if (k < 0 || k >= x.count(9)) Due.is(n + " VISITS: plan(" + k + ")", x.plan(k), NONE);
            Due.is(n + " VISITS: plan(-1)", x.plan(NONE), 0);
            x.visit(1001, 1);
        }
        x = visits(TIDE, 1019, 1);
        for (int k = -2; k <= 1; k++) Due.is("there is none: plan(" + k + ")", x.plan(k), NONE);
    }
}
