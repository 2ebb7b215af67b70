/** Promises 6 to 10, 38 and 39: the ship, her LINES, and images of both. */
public final class ShipTest {
    private static final int NONE = QuayRopes.NONE;
    private static final int MIN = Integer.MIN_VALUE;
    private static final int MAX = Integer.MAX_VALUE;
    private static final String TEXT = "stone 50 999; stone 10 999; rope 99 1; rope 50 3; tide 0 2 4 6 4 9;";

    public static void main(String[] args) {
        ships();
        lines();
        mended();
        letGo();
        told();
        images();
        Due.end();
    }

    private static void ships() {
        QuayRopes x = Due.port(TEXT);
        int[][] cant = {{-1, 0}, {200, 0}, {0, -1}, {0, 31}, {MIN, MIN}, {MAX, MAX}};
        for (int[] c : cant) {
            Due.is("6: ship(" + c[0] + ", " + c[1] + ")", x.ship(c[0], c[1]), false);
            Due.is("6: none came", x.line(0, 0, 0, 0, 0), NONE);
        }
        Due.is("6: ship(0, 0)", x.ship(0, 0), true);
        Due.is("6: ship(199, 30)", x.ship(199, 30), true);
        x.line(0, 0, 0, 0, 0);
        Due.is("6: LAID", x.of(0, 5), 149 + 5 + 30);
        for (int[] c : cant) Due.is("6: ship(" + c[0] + ", " + c[1] + ")", x.ship(c[0], c[1]), false);
        Due.is("6: the LINE stays", x.count(4), 1);
        Due.is("6: ship(1, 1)", x.ship(1, 1), true);
        Due.is("6: without LINES", x.count(4), 0);
    }

    private static void lines() {
        QuayRopes x = Due.port(TEXT);
        Due.is("7: without a ship", x.line(0, 0, 0, 0, 0), NONE);
        x.ship(20, 10);
        int[][] cant = {{-1, 0, 0, 0, 0}, {100, 0, 0, 0, 0}, {0, -1, 0, 0, 0}, {0, 81, 0, 0, 0}, {0, 0, -1, 0, 0}, {0, 0, 2, 0, 0},
            {0, 0, 0, -1, 0}, {0, 0, 0, -100, 0}, {0, 0, 0, 200, 0}, {0, 0, 0, 0, -1}, {0, 0, 0, 0, 21}, {MIN, MIN, MIN, MIN, MIN}, {MAX, MAX, MAX, MAX, MAX}};
        for (int[] c : cant) {
            Due.is("7: line that can't be", x.line(c[0], c[1], c[2], c[3], c[4]), NONE);
            Due.is("7: none came", x.count(4), 0);
        }
        int[][] can = {{0, 0, 0, 0, 0}, {99, 80, 1, 199, 20}, {0, 0, 0, 100, 0}, {5, 5, 1, 99, 5}, {0, 0, 0, 0, 0}, {1, 1, 1, 1, 1}};
        for (int i = 0; i < 6; i++) Due.is("7: line", x.line(can[i][0], can[i][1], can[i][2], can[i][3], can[i][4]), i);
        Due.is("7: a seventh", x.line(0, 0, 0, 0, 0), NONE);
        Due.is("7: LINES", x.count(4), 6);
        x.letGo();
        Due.is("7: the sixth anew", x.line(0, 0, 0, 0, 0), 5);
    }

    private static void mended() {
        QuayRopes x = Due.port(TEXT);
        Due.is("8: without a ship", x.mend(0, 0, 0), false);
        x.ship(20, 10);
        Due.is("8: without LINES", x.mend(0, 0, 0), false);
        x.line(0, 30, 0, 107, 4);
        Due.is("8: LAID ahead", x.of(0, 5), 0 + 5 + 10 + 4);
        int[][] cant = {{-1, 0, 0}, {1, 0, 0}, {0, -1, 0}, {0, 100, 0}, {0, 0, -1}, {0, 0, 21}, {MAX, MAX, MAX}, {MIN, MIN, MIN}};
        for (int[] c : cant) Due.is("8: mend that can't be", x.mend(c[0], c[1], c[2]), false);
        Due.is("8: LAID still", x.of(0, 5), 19);
        Due.is("8: in another hour, the same SLACK", x.mend(0, 6, 4), true);
        Due.is("8: LAID", x.of(0, 5), 0 + 5 + 4 + 4);
        Due.is("8: mend(0, 99, 20)", x.mend(0, 99, 20), true);
        int[] want = {30, 0, 1, 20, 7, 0 + 5 + 8 + 20};
        for (int what = 0; what < 6; what++) Due.is("8: of(0, " + what + ")", x.of(0, what), want[what]);
    }

    private static void letGo() {
        QuayRopes x = Due.port(TEXT);
        Due.is("9: without a ship", x.letGo(), NONE);
        x.ship(20, 10);
        Due.is("9: without LINES", x.letGo(), NONE);
        for (int i = 0; i < 3; i++) x.line(i, i, 0, 0, 0);
        Due.is("9: letGo()", x.letGo(), 2);
        Due.is("9: the last is gone", x.of(2, 0), NONE);
        Due.is("9: the others stay", x.of(1, 0), 1);
        Due.is("9: letGo()", x.letGo(), 1);
        Due.is("9: letGo()", x.letGo(), 0);
        Due.is("9: letGo()", x.letGo(), NONE);
    }

    private static void told() {
        QuayRopes x = Due.port(TEXT);
        Due.is("10: without a ship", x.of(0, 0), NONE);
        x.ship(20, 5);
        // hour 22 is the tenth of its 12: the WATER is 9 in hours 10 and 11, 4 in 8 and 9
        x.line(22, 40, 1, 123, 3);
        int[] want = {40, 1, 1, 3, 23, 50 + 5 + 4 + 3};
        for (int what = 0; what < 6; what++) Due.is("10: of(0, " + what + ")", x.of(0, what), want[what]);
        x.line(9, 0, 0, 0, 0);
        Due.is("10: ahead", x.of(1, 5), 30 + 5 + 1 + 0);
        int[] waters = {0, 0, 2, 2, 4, 4, 6, 6, 4, 4, 9, 9};
        for (int hour = 0; hour < 100; hour++) {
            x.mend(1, hour, 0);
            Due.is("10: LAID in hour " + hour, x.of(1, 5), 30 + 5 + Math.abs(5 - waters[hour % 12]));
        }
        for (int what : new int[] {-1, 6, MIN, MAX}) Due.is("10: of(0, " + what + ")", x.of(0, what), NONE);
        for (int line : new int[] {-1, 2, 5, 6, MIN, MAX}) Due.is("10: of(" + line + ", 0)", x.of(line, 0), NONE);
    }

    private static void images() {
        QuayRopes x = Due.port(TEXT);
        for (int k = -1; k <= 3; k++) {
            Due.is("38: image(" + k + ") without a ship", x.image(k), false);
            Due.is("39: back(" + k + ") without one", x.back(k), false);
        }
        x.ship(20, 5);
        for (int k : new int[] {-1, 3, MIN, MAX}) {
            Due.is("38: image(" + k + ")", x.image(k), false);
            Due.is("39: back(" + k + ")", x.back(k), false);
        }
        Due.is("38: image(0)", x.image(0), true);
        Due.is("39: back(1)", x.back(1), false);
        x.line(4, 40, 1, 123, 3);
        x.line(9, 0, 0, 1, 2);
        Due.is("38: image(1)", x.image(1), true);
        Due.is("38: image(2)", x.image(2), true);
        x.mend(0, 0, 9);
        x.letGo();
        x.ship(100, 30);
        x.line(0, 1, 0, 0, 0);
        Due.is("39: back(1)", x.back(1), true);
        Due.is("39: LINES", x.count(4), 2);
        int[] want = {40, 1, 1, 3, 23, 50 + 5 + 1 + 3};
        for (int what = 0; what < 6; what++) Due.is("39: of(0, " + what + ")", x.of(0, what), want[what]);
        int[] other = {0, 0, 0, 2, 1, 30 + 5 + 1 + 2};
        for (int what = 0; what < 6; what++) Due.is("39: of(1, " + what + ")", x.of(1, what), other[what]);
        // what comes behind going back is not in the image
        x.mend(1, 0, 20);
        Due.is("39: back(2)", x.back(2), true);
        Due.is("39: of(1, 3)", x.of(1, 3), 2);
        Due.is("39: back(0)", x.back(0), true);
        Due.is("39: no LINES", x.count(4), 0);
        Due.is("39: the ship", x.line(0, 0, 0, 0, 0), 0);
        Due.is("39: her BOW and DECK", x.of(0, 5), 30 + 5 + 5);
        Due.is("38: image(0) in place of the one ahead", x.image(0), true);
        x.letGo();
        Due.is("39: back(0)", x.back(0), true);
        Due.is("39: a LINE", x.count(4), 1);
        Due.is("39: refused", x.back(3), false);
        Due.is("39: a LINE", x.count(4), 1);
    }
}
