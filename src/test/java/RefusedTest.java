import java.util.ArrayList;
import java.util.List;

/**
 * What is refused changes nothing: of two objects that came the same way one is asked what it refuses; then
 * both answer the same, whatever is asked. And up to its 512th call an object answers as is due.
 */
public final class RefusedTest {
    private static final int NONE = QuayRopes.NONE;
    private static final int VOID = QuayRopes.VOID;
    private static final int MIN = Integer.MIN_VALUE;
    private static final int MAX = Integer.MAX_VALUE;

    // What an object has: no PORT; a PORT alone; something of all; as much of all as can be.
    private static final int NEW = 1;
    private static final int BARE = 2;
    private static final int SOME = 4;
    private static final int FULL = 8;
    private static final int ALL = 15;
    private static final String TEXT = "stone 50 60;stone 90 70;stone 20 999;rope 99 3;rope 40 9;tide 0 2 4 6 4 2;gang 9 60;gang 12 0;gang 5 5;"
        + "tugs 3;pay 1 2 3;deep 0 200 30;deep 150 200 12;";
    private static final String NEXT = "stone 9 9;rope 9 9;tugs 1;";

    private interface Asked {
        int of(QuayRopes x);
    }

    private static final class Refused {
        final String name;
        final int states;
        final Asked call;

        Refused(String name, int states, Asked call) {
            this.name = name;
            this.states = states;
            this.call = call;
        }
    }

    private static final List<Refused> REFUSED = new ArrayList<>();

    public static void main(String[] args) {
        text();
        ship();
        lines();
        images();
        calls();
        rings();
        visits();
        tasksAndLog();
        questions();
        changesNothing();
        last();
        Due.end();
    }

    private static int no(boolean answer) {
        return answer ? 1 : NONE;
    }

    private static void refused(String name, int states, Asked call) {
        REFUSED.add(new Refused(name, states, call));
    }

    private static void text() {
        refused("feed", FULL, x -> x.feed(0x20202020, 0x20202020, 0x20202020, 0x20202020, 0x20202020));
        refused("feed", FULL, x -> x.feed(MIN, MAX, 0, -1, 1));
        for (int n : new int[] {-1, MIN, 501, MAX}) refused("end", ALL, x -> no(x.end(n)));
        refused("end", NEW | BARE | SOME, x -> no(x.end(28)));
        refused("port", ALL, x -> x.port());
    }

    private static void ship() {
        int[][] cant = {{-1, 0}, {200, 0}, {0, -1}, {0, 31}, {MIN, MIN}, {MAX, MAX}};
        for (int[] c : cant) refused("ship", ALL, x -> no(x.ship(c[0], c[1])));
        refused("ship", NEW, x -> no(x.ship(0, 0)));
    }

    private static void lines() {
        int[][] cant = {{-1, 0, 0, 0, 0}, {100, 0, 0, 0, 0}, {0, -1, 0, 0, 0}, {0, 81, 0, 0, 0}, {0, 0, -1, 0, 0}, {0, 0, 3, 0, 0},
            {0, 0, 0, -1, 0}, {0, 0, 0, 200, 0}, {0, 0, 0, 0, -1}, {0, 0, 0, 0, 21}, {MIN, MIN, MIN, MIN, MIN}, {MAX, MAX, MAX, MAX, MAX}};
        for (int[] c : cant) refused("line", ALL, x -> x.line(c[0], c[1], c[2], c[3], c[4]));
        refused("line", NEW | BARE | FULL, x -> x.line(1, 1, 1, 1, 1));
        int[][] cantMend = {{-1, 0, 0}, {6, 0, 0}, {0, -1, 0}, {0, 100, 0}, {0, 0, -1}, {0, 0, 21}, {1, -1, 5}, {1, 5, 21}, {MIN, MIN, MIN}, {MAX, MAX, MAX}};
        for (int[] c : cantMend) refused("mend", ALL, x -> no(x.mend(c[0], c[1], c[2])));
        refused("mend", NEW | BARE, x -> no(x.mend(0, 0, 0)));
        refused("mend", NEW | BARE | SOME, x -> no(x.mend(2, 0, 0)));
        refused("letGo", NEW | BARE, x -> x.letGo());
    }

    private static void images() {
        for (int k : new int[] {-1, 3, MIN, MAX}) {
            refused("image", ALL, x -> no(x.image(k)));
            refused("back", ALL, x -> no(x.back(k)));
        }
        for (int k = 0; k < 3; k++) {
            int image = k;
            refused("image", NEW | BARE, x -> no(x.image(image)));
            refused("back", NEW | BARE | (k > 0 ? SOME : 0), x -> no(x.back(image)));
        }
    }

    private static void calls() {
        int[][] cant = {{-1, 1, 10}, {1000, 1, 10}, {0, 0, 10}, {0, 21, 10}, {0, 1, 9}, {0, 1, 17}, {0, 1, 2010}, {0, 1, -10}, {MIN, MIN, MIN}, {MAX, MAX, MAX}};
        for (int[] c : cant) refused("call", ALL, x -> x.call(c[0], c[1], c[2]));
        refused("call", NEW | FULL, x -> x.call(5, 5, 50));
        for (int row : new int[] {-1, 4096, 3, MIN, MAX}) {
            for (int what : new int[] {0, 10, -1, 16}) refused("met", ALL, x -> x.met(row, what));
            for (int gang : new int[] {0, 2, -1, 4}) refused("pay", ALL, x -> x.pay(row, gang));
        }
        refused("least", NEW, x -> x.least());
    }

    private static void rings() {
        int[][] cant = {{0, 0}, {8, 3}, {15, 0}, {7, 3}, {6, 0}, {7, -1}, {-1, 0}, {MIN, MIN}, {MAX, MAX}, {MIN | 1, 0}};
        for (int[] c : cant) refused("ring", ALL, x -> x.ring(c[0], c[1]));
        refused("ring", NEW | FULL, x -> x.ring(7, 1));
        refused("undo", NEW | BARE, x -> x.undo());
        for (int home : new int[] {0, 8, -1, MIN, MAX}) refused("turn", ALL, x -> x.turn(home));
        for (int gang : new int[] {-1, 3, 4, MIN, MAX}) refused("luck", ALL, x -> x.luck(gang, 0));
        for (int what : new int[] {-1, 3, MIN, MAX}) refused("luck", ALL, x -> x.luck(0, what));
    }

    private static void visits() {
        int[][] cant = {{999, 101}, {1000, 101}, {1041, 101}, {15101, 101}, {1001, 100}, {1001, 149}, {1001, 10001}, {1001, -1}, {-1001, 101}, {MIN, MIN}, {MAX, MAX}};
        for (int[] c : cant) refused("visit", ALL, x -> x.visit(c[0], c[1]));
        refused("visit", NEW | FULL, x -> x.visit(2002, 202));
        int[][] cantLay = {{-1, 0, 50}, {5, 0, 50}, {0, 0, -1}, {0, -1, 50}, {0, 191, 50}, {0, 0, 200}, {2, 150, 48}, {1, 10, 50}, {0, MAX, 50}, {0, 0, MAX}, {MIN, MIN, MIN}, {MAX, MAX, MAX}};
        for (int[] c : cantLay) refused("lay", ALL, x -> no(x.lay(c[0], c[1], c[2])));
        for (int visit : new int[] {-1, 2, 5, MIN, MAX}) refused("lift", ALL, x -> no(x.lift(visit)));
        refused("lift", NEW | BARE, x -> no(x.lift(0)));
        for (int visit : new int[] {-1, 5, MIN, MAX}) {
            refused("fits", ALL, x -> x.fits(visit, 0, 50));
            refused("about", ALL, x -> x.about(visit, 0));
            refused("firstFit", ALL, x -> x.firstFit(visit));
            refused("plan", ALL, x -> x.plan(visit == -1 ? -2 : visit));
        }
        refused("firstFit", ALL, x -> x.firstFit(0));
        for (int what : new int[] {-1, 7, MIN, MAX}) refused("about", ALL, x -> x.about(0, what));
        for (int place : new int[] {-1, 201, MIN, MAX}) refused("depth", ALL, x -> x.depth(place));
    }

    private static void tasksAndLog() {
        int[][] cant = {{0, 1, 1}, {201, 1, 1}, {1, -1, 1}, {1, 1000, 1}, {1, 1, 0}, {1, 1, 100}, {MIN, MIN, MIN}, {MAX, MAX, MAX}};
        for (int[] c : cant) refused("task", ALL, x -> x.task(c[0], c[1], c[2]));
        refused("task", NEW | FULL, x -> x.task(1, 1, 1));
        int[][] cantStorm = {{0, NONE}, {3, NONE}, {1, 6}, {2, -2}, {MIN, 0}, {MAX, 0}, {2, MIN}, {1, MAX}};
        for (int[] c : cantStorm) refused("storm", ALL, x -> x.storm(c[0], c[1]));
        int[][] cantBlow = {{-1, 0, 0}, {100, 0, 0}, {0, -1, 0}, {0, 1000, 0}, {0, 0, -100}, {0, 0, 100}, {MIN, MIN, MIN}, {MAX, MAX, MAX}};
        for (int[] c : cantBlow) {
            refused("weather", ALL, x -> x.weather(c[0], c[1], c[2]));
            for (int k = -1; k <= 1; k++) {
                int what = k;
                refused("rests", ALL, x -> x.rests(c[0], c[1], c[2], what) == VOID ? NONE : 1);
                refused("pull", ALL, x -> x.pull(c[0], c[1], c[2], what));
                refused("goes", ALL, x -> x.goes(c[0], c[1], c[2], what));
                refused("best", ALL, x -> x.best(c[0], c[1], c[2], 1, what));
                refused("moved", ALL, x -> x.moved(c[0], c[1], c[2], 0, what));
            }
            refused("holds", ALL, x -> x.holds(c[0], c[1], c[2]));
            if (c[1] == 0 || c[1] == MIN || c[1] == MAX) refused("held", ALL, x -> x.held(c[0], c[2]));
        }
        refused("weather", NEW | FULL, x -> x.weather(1, 1, 1));
    }

    private static void questions() {
        for (int n : new int[] {-2, 6, MIN, MAX}) {
            refused("of", ALL, x -> x.of(n, 0));
            refused("of", ALL, x -> x.of(0, n));
            refused("rests", ALL, x -> x.rests(0, 0, 0, n) == VOID ? NONE : 1);
            refused("pull", ALL, x -> x.pull(0, 0, 0, n));
            refused("goes", ALL, x -> x.goes(0, 0, 0, n));
            refused("moved", ALL, x -> x.moved(0, 0, 0, n, 0));
            refused("moved", ALL, x -> x.moved(0, 0, 0, 0, n == -2 ? -21 : n == 6 ? 21 : n));
            refused("best", ALL, x -> x.best(0, 0, 0, n, NONE));
            refused("best", ALL, x -> x.best(0, 0, 0, 1, n));
            refused("blame", ALL, x -> x.blame(n, 0));
            refused("blame", ALL, x -> x.blame(0, n));
            refused("count", ALL, x -> x.count(n == 6 ? 12 : n));
        }
    }

    /** An object that has come to a state, always by the same calls. */
    private static QuayRopes made(int state) {
        QuayRopes x = new QuayRopes();
        if (state != NEW) Due.portAnew(x, TEXT);
        int many = state == FULL ? 6 : 2;
        if (state == SOME || state == FULL) {
            x.ship(30, 10);
            for (int i = 0; i < many; i++) {
                x.line(i, 5 + 10 * i, i % 3, i % 2 * 100 + i, i);
                x.call(10 * i, 4 + i % 2, 10 * (30 + i) + i % 3);
                x.task(10 + i, 30 + i, 9 - i);
                if (i < 3 && (i == 0 || state == FULL)) x.image(i);
                if (i < 5) x.visit(1000 * (i + 1) + 11 + i, 100 * i + 5 + i);
            }
            if (state == SOME) x.visit(1000 * 3 + 13, 207);
            x.mend(0, 7, 8);
            x.lay(0, 0, 50);
            x.lay(1, 60, 51);
            for (int i = 0; i < 2 * many; i++) x.weather(i, 40 * i, 3 * i - 9);
            for (int i = 0; i < (state == FULL ? 20 : 5); i++) x.ring(7, i * i % 3);
        }
        Due.feed(x, state == FULL ? NEXT + " ".repeat(500 - NEXT.length() - 1) + "x" : NEXT + "x");
        return x;
    }

    private static void changesNothing() {
        Due.says("terms 8", "What is refused changes nothing.");
        List<String> names = new ArrayList<>();
        for (Refused r : REFUSED) if (!names.contains(r.name)) names.add(r.name);
        for (int state = NEW; state <= FULL; state *= 2) {
            for (String name : names) {
                QuayRopes other = made(state);
                int asked = 0;
                for (Refused r : REFUSED) {
                    if (!r.name.equals(name) || (r.states & state) == 0) continue;
                    asked++;
                    Due.is("state " + state + ", " + name + " " + asked, r.call.of(other), NONE);
                }
                if (asked > 0) same("state " + state + ", behind " + name, made(state), other);
            }
        }
    }

    private static void same(String what, QuayRopes x, QuayRopes y) {
        for (int i = 0; i <= 11; i++) Due.is(what + ": count(" + i + ")", y.count(i), x.count(i));
        Due.is(what + ": fault()", y.fault(), x.fault());
        sameShip(what, x, y);
        sameGangs(what, x, y);
        sameVisits(what, x, y);
        for (int k = -1; k <= 5; k++) Due.is(what + ": storm(2, " + k + ")", y.storm(2, k), x.storm(2, k));
        for (int i = 0; i <= 5; i++) {
            for (int k = 0; k <= 1; k++) Due.is(what + ": blame(" + i + ", " + k + ")", y.blame(i, k), x.blame(i, k));
        }
        for (int k = 0; k <= 2; k++) {
            Due.is(what + ": back(" + k + ")", y.back(k), x.back(k));
            Due.is(what + ": count(4)", y.count(4), x.count(4));
            for (int i = 0; i <= 5; i++) Due.is(what + ": LAID of " + i + " in image " + k, y.of(i, 5), x.of(i, 5));
        }
        Due.is(what + ": undo()", y.undo(), x.undo());
        Due.is(what + ": letGo()", y.letGo(), x.letGo());
        Due.is(what + ": end", y.end(x.count(7) - 1), x.end(x.count(7) - 1));
        Due.is(what + ": fault()", y.fault(), NONE);
        Due.is(what + ": port()", y.port(), 1);
        Due.is(what + ": TUGS", y.count(3), 1);
    }

    private static void sameShip(String what, QuayRopes x, QuayRopes y) {
        for (int i = 0; i <= 5; i++) {
            for (int k = 0; k <= 5; k++) Due.is(what + ": of(" + i + ", " + k + ")", y.of(i, k), x.of(i, k));
            Due.is(what + ": pull of " + i, y.pull(3, 90, -5, i), x.pull(3, 90, -5, i));
            Due.is(what + ": goes " + i, y.goes(3, 400, -5, i), x.goes(3, 400, -5, i));
        }
        for (int k = 0; k <= 3; k++) Due.is(what + ": rests " + k, y.rests(3, 90, -5, k), x.rests(3, 90, -5, k));
        Due.is(what + ": holds", y.holds(3, 400, -5), x.holds(3, 400, -5));
        Due.is(what + ": held", y.held(3, -5), x.held(3, -5));
        Due.is(what + ": moved", y.moved(3, 90, -5, 0, -1), x.moved(3, 90, -5, 0, -1));
        for (int k = -1; k <= 1; k++) Due.is(what + ": best " + k, y.best(3, 90, -5, 2, k), x.best(3, 90, -5, 2, k));
    }

    private static void sameGangs(String what, QuayRopes x, QuayRopes y) {
        int row = x.least();
        Due.is(what + ": least()", y.least(), row);
        for (int k = 0; k <= 15; k++) if (k < 4 || k > 9) Due.is(what + ": met " + k, y.met(row, k), x.met(row, k));
        for (int gang = 0; gang <= 2; gang++) {
            Due.is(what + ": pay of " + gang, y.pay(row, gang), x.pay(row, gang));
            for (int k = 0; k <= 2; k++) Due.is(what + ": luck(" + gang + ", " + k + ")", y.luck(gang, k), x.luck(gang, k));
        }
        for (int home = 1; home <= 7; home++) Due.is(what + ": turn(" + home + ")", y.turn(home), x.turn(home));
    }

    private static void sameVisits(String what, QuayRopes x, QuayRopes y) {
        for (int i = 0; i <= 4; i++) {
            for (int k = 0; k <= 6; k++) Due.is(what + ": about(" + i + ", " + k + ")", y.about(i, k), x.about(i, k));
            Due.is(what + ": firstFit(" + i + ")", y.firstFit(i), x.firstFit(i));
            Due.is(what + ": plan(" + i + ")", y.plan(i), x.plan(i));
        }
        Due.is(what + ": plan(-1)", y.plan(NONE), x.plan(NONE));
        for (int place = 0; place <= 200; place += 50) Due.is(what + ": depth(" + place + ")", y.depth(place), x.depth(place));
    }

    private static void last() {
        Due.says("what it is", "An object is used for at most 512 calls after it has been made; what later calls answer is free.");
        QuayRopes x = new QuayRopes();
        // four calls to a PORT
        for (int n = 1; n <= 128; n++) {
            x.end(0);
            x.feed(Due.four(NEXT, 0), Due.four(NEXT, 4), Due.four(NEXT, 8), Due.four(NEXT, 12), Due.four(NEXT, 16));
            x.end(19);
            Due.is("PORT " + n, x.port(), 1);
        }
        x = new QuayRopes();
        x.feed(Due.four(NEXT, 0), Due.four(NEXT, 4), Due.four(NEXT, 8), Due.four(NEXT, 12), Due.four(NEXT, 16));
        x.end(19);
        x.port();
        for (int n = 4; n <= 511; n += 4) {
            Due.is("ship", x.ship(n % 200, n % 31), true);
            Due.is("line", x.line(0, 0, 0, 0, 0), 0);
            Due.is("image", x.image(n % 3), true);
            Due.is("call " + (n + 3), x.of(0, 5), Math.abs(9 - n % 200) + 5 + n % 31);
        }
        Due.is("the 512th", x.back(0), true);
    }
}
