/** Promises 22 to 25: RINGS, whose TURN it is, LUCK and CHANCE. */
public final class RingTest {
    private static final int NONE = QuayRopes.NONE;
    private static final int MIN = Integer.MIN_VALUE;
    private static final int MAX = Integer.MAX_VALUE;
    private static final String THREE = "stone 1 1; rope 1 1; gang 1 1; gang 1 1; gang 1 1;";

    public static void main(String[] args) {
        rung();
        undone();
        turns();
        luckAndChance();
        chanceOfMore();
        chanceOfMost();
        refused();
        Due.end();
    }

    private static void rung() {
        QuayRopes x = Due.port(THREE);
        int[][] cant = {{0, 0}, {8, 3}, {9, 0}, {16, 4}, {7, 3}, {7, -1}, {6, 0}, {1, 1}, {-1, 0}, {-1, -1}, {1, 32}, {MIN, 31}, {MIN, MIN}, {MAX, MAX}, {MAX, 0}};
        for (int[] c : cant) Due.is("22: ring(" + c[0] + ", " + c[1] + ")", x.ring(c[0], c[1]), NONE);
        Due.is("22: none came", x.count(6), 0);
        for (int i = 0; i < 20; i++) Due.is("22: ring", x.ring(7, i % 3), i + 1);
        Due.is("22: more than 20", x.ring(7, 0), NONE);
        Due.is("22: RINGS", x.count(6), 20);
        Due.is("22: a fourth GANG", Due.port(THREE + "gang 1 1;").ring(8, 3), 1);
        Due.is("22: no GANGS", Due.port("stone 1 1; rope 1 1;").ring(1, 0), NONE);
    }

    private static void undone() {
        QuayRopes x = Due.port(THREE);
        Due.is("23: without", x.undo(), NONE);
        x.ring(7, 0);
        x.ring(7, 1);
        Due.is("23: undo()", x.undo(), 1);
        Due.is("23: it was not rung", x.turn(7), 1);
        Due.is("23: it was not rung", x.luck(1, 0), 0);
        Due.is("23: undo()", x.undo(), 0);
        Due.is("23: TURN", x.turn(7), 0);
        Due.is("23: undo()", x.undo(), NONE);
        for (int i = 0; i < 20; i++) x.ring(1, 0);
        Due.is("23: the twentieth", x.undo(), 19);
        Due.is("22: the twentieth anew", x.ring(2, 1), 20);
    }

    private static void turns() {
        QuayRopes x = Due.port(THREE);
        Due.is("24: none was rung: the least number", x.turn(7), 0);
        Due.is("24: of those at home", x.turn(6), 1);
        Due.is("24: one at home", x.turn(4), 2);
        x.ring(7, 1);
        Due.is("24: never ahead of all", x.turn(7), 0);
        Due.is("24: never ahead of all", x.turn(6), 2);
        x.ring(7, 2);
        x.ring(7, 0);
        Due.is("24: longest ago", x.turn(7), 1);
        x.ring(7, 1);
        Due.is("24: longest ago", x.turn(7), 2);
        Due.is("24: of those at home", x.turn(3), 0);
        x.ring(7, 2);
        x.ring(7, 2);
        Due.is("24: longest ago", x.turn(7), 0);
        for (int home : new int[] {0, 8, 15, -1, 16, MIN, MAX}) Due.is("24: turn(" + home + ")", x.turn(home), NONE);
    }

    private static void luck(String what, QuayRopes x, int gang, int... want) {
        for (int k = 0; k < 3; k++) Due.is("25: " + what + ": luck(" + gang + ", " + k + ")", x.luck(gang, k), want[k]);
    }

    private static void luckAndChance() {
        QuayRopes x = Due.port(THREE);
        luck("no RINGS", x, 0, 0, 0, 1000);
        x.ring(3, 0);
        luck("in TURN", x, 0, 1, 0, 1000);
        luck("not rung", x, 1, 0, 0, 1000);
        x.undo();
        x.ring(3, 1);
        luck("OUT of turn", x, 1, 1, 1, 500);
        luck("not rung", x, 0, 0, 0, 1000);
        x.ring(2, 1);
        // alone at home it is its TURN, whenever it was rung
        luck("alone at home", x, 1, 2, 1, 500);
        x.ring(3, 1);
        // OUT of turn again: both of two RINGS in which it could be
        luck("twice", x, 1, 3, 2, 250);
        x.ring(3, 0);
        luck("the first at last", x, 0, 1, 0, 1000);
        x.undo();
        x.ring(7, 2);
        luck("the third", x, 2, 1, 1, 333);
        // of 12 ways (by two, two and three) 2 with the first two alone, 1 each with the third, 1 with all
        luck("the second", x, 1, 3, 2, 416);
    }

    private static void chanceOfMore() {
        QuayRopes x = Due.port(THREE);
        x.ring(7, 2);
        x.ring(7, 2);
        luck("two of two", x, 2, 2, 2, 111);
        x.ring(7, 0);
        // two or more of three, by thirds: 7 of 27
        luck("two of three", x, 2, 2, 2, 259);
        luck("in TURN", x, 0, 1, 0, 1000);
        // two or more of four: 33 of 81
        x.ring(7, 1);
        luck("two of four", x, 2, 2, 2, 407);
        luck("none of three", x, 1, 1, 0, 1000);
        x.ring(3, 1);
        luck("not at home", x, 2, 2, 2, 407);
        // not in the fourth, which was its TURN: none of three by thirds and one by halves are 4 of 27
        luck("one OUT of turn", x, 1, 2, 1, 851);
    }

    /** Twenty RINGS with four at home: 4 to the 20th ways. */
    private static void chanceOfMost() {
        QuayRopes x = Due.port(THREE + "gang 1 1;");
        for (int i = 0; i < 20; i++) x.ring(15, 3);
        // the fourth's own TURN comes only behind those of three that were never rung, that is never
        luck("twenty of twenty", x, 3, 20, 20, 0);
        for (int i = 0; i < 19; i++) x.undo();
        luck("one of one", x, 3, 1, 1, 250);
        for (int i = 0; i < 19; i++) x.ring(15, i % 3);
        // behind three more RINGS it is its own TURN, and stays so: one or more of four by quarters
        luck("one of four", x, 3, 1, 1, 683);
        // five in TURN, the others not: never one less
        Due.is("25: rung", x.luck(0, 0), 7);
    }

    private static void refused() {
        QuayRopes x = Due.port(THREE);
        x.ring(7, 2);
        for (int gang : new int[] {-1, 3, 4, 32, MIN, MAX}) {
            for (int what = 0; what < 3; what++) Due.is("25: luck(" + gang + ", " + what + ")", x.luck(gang, what), NONE);
        }
        for (int what : new int[] {-1, 3, MIN, MAX}) Due.is("25: luck(0, " + what + ")", x.luck(0, what), NONE);
    }
}
