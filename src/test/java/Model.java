import java.math.BigInteger;
import java.util.ArrayList;
import java.util.HashMap;
import java.util.List;
import java.util.Map;

/**
 * The document once more, word by word and without any care for speed, so that the program can be
 * held against it. It shares no code with the program.
 */
final class Model {
    static final int NONE = -1;
    static final int VOID = Integer.MIN_VALUE;

    private String text = "";
    private boolean port;
    private Told told = new Told();
    private int[] ship;
    private List<int[]> lines = new ArrayList<>();
    private List<int[]> calls = new ArrayList<>();
    private List<int[]> rings = new ArrayList<>();
    private List<int[]> visits = new ArrayList<>();
    private List<int[]> tasks = new ArrayList<>();
    private List<int[]> log = new ArrayList<>();
    private Map<Integer, int[]> imageShips = new HashMap<>();
    private Map<Integer, List<int[]>> imageLines = new HashMap<>();

    private static final class Told {
        List<int[]> stones = new ArrayList<>();
        List<int[]> ropes = new ArrayList<>();
        List<int[]> stretches = new ArrayList<>();
        List<int[]> gangs = new ArrayList<>();
        int[] tide;
        int[] pay;
        int[] tugs;
    }

    // ---- 1: the text

    int feed(int a, int b, int c, int d, int e) {
        if (text.length() + 20 > 500) return NONE;
        StringBuilder s = new StringBuilder(text);
        for (int n : new int[] {a, b, c, d, e}) {
            s.append((char) (n >>> 24)).append((char) (n >>> 16 & 255)).append((char) (n >>> 8 & 255)).append((char) (n & 255));
        }
        text = s.toString();
        return text.length();
    }

    boolean end(int n) {
        if (n < 0 || n > text.length()) return false;
        text = text.substring(0, n);
        return true;
    }

    int fault() {
        return parse(new Told());
    }

    private int parse(Told into) {
        List<String> tokens = new ArrayList<>();
        List<Integer> begins = new ArrayList<>();
        int bad = Integer.MAX_VALUE;
        for (int i = 0; i < text.length();) {
            String rest = text.substring(i);
            String token = rest.replaceFirst("(?s)^([a-z]+|[0-9]+|;|[ \n]).*$", "$1");
            if (token.equals(rest) && !rest.matches("[a-z]+|[0-9]+|;|[ \n]")) {
                bad = i;
                break;
            }
            if (!token.equals(" ") && !token.equals("\n")) {
                tokens.add(token);
                begins.add(i);
            }
            i += token.length();
        }
        int wrong = sentences(tokens, into);
        if (wrong < tokens.size()) return Math.min(begins.get(wrong), bad);
        if (bad != Integer.MAX_VALUE) return bad;
        boolean open = wrong > tokens.size();
        return open || into.stones.isEmpty() || into.ropes.isEmpty() ? text.length() : NONE;
    }

    /** The first token that can't stand; their number if all can; one more if the last statement is open. */
    private static int sentences(List<String> tokens, Told into) {
        int t = 0;
        while (t < tokens.size()) {
            String word = tokens.get(t);
            long[][] limits;
            switch (word) {
                case "stone": if (into.stones.size() == 8) return t; limits = new long[][] {{0, 199}, {1, 999}}; break;
                case "rope": if (into.ropes.size() == 4) return t; limits = new long[][] {{1, 999}, {1, 20}}; break;
                case "deep": if (into.stretches.size() == 4) return t; limits = new long[][] {{0, 200}, {0, 200}, {0, 40}}; break;
                case "tide": if (into.tide != null) return t; limits = new long[][] {{0, 9}, {0, 9}, {0, 9}, {0, 9}, {0, 9}, {0, 9}}; break;
                case "gang": if (into.gangs.size() == 4) return t; limits = new long[][] {{1, 20}, {0, 600}}; break;
                case "tugs": if (into.tugs != null) return t; limits = new long[][] {{0, 6}}; break;
                case "pay": if (into.pay != null) return t; limits = new long[][] {{0, 99}, {0, 99}, {0, 99}}; break;
                default: return t;
            }
            int[] numbers = new int[limits.length];
            for (int f = 0; f < limits.length; f++) {
                t++;
                if (t >= tokens.size()) return tokens.size() + 1;
                if (!tokens.get(t).matches("[0-9]+")) return t;
                BigInteger n = new BigInteger(tokens.get(t));
                if (n.compareTo(BigInteger.valueOf(limits[f][0])) < 0 || n.compareTo(BigInteger.valueOf(limits[f][1])) > 0) return t;
                numbers[f] = n.intValue();
                if (word.equals("stone") && f == 0) {
                    for (int[] s : into.stones) if (s[0] == numbers[0]) return t;
                }
                if (word.equals("deep") && f == 1 && numbers[1] <= numbers[0]) return t;
            }
            t++;
            if (t >= tokens.size()) return tokens.size() + 1;
            if (!tokens.get(t).equals(";")) return t;
            t++;
            switch (word) {
                case "stone": into.stones.add(numbers); break;
                case "rope": into.ropes.add(numbers); break;
                case "deep": into.stretches.add(numbers); break;
                case "tide": into.tide = numbers; break;
                case "gang": into.gangs.add(numbers); break;
                case "tugs": into.tugs = numbers; break;
                default: into.pay = numbers; break;
            }
        }
        return tokens.size();
    }

    int port() {
        Told fresh = new Told();
        if (parse(fresh) != NONE) return NONE;
        told = fresh;
        port = true;
        text = "";
        ship = null;
        lines.clear();
        calls.clear();
        rings.clear();
        visits.clear();
        tasks.clear();
        log.clear();
        imageShips.clear();
        imageLines.clear();
        return told.stones.size();
    }

    private int water(int hour) {
        return told.tide == null ? 0 : told.tide[hour % 12 / 2];
    }

    private int tugs() {
        return told.tugs == null ? 0 : told.tugs[0];
    }

    // ---- 2: the ship; a line is hour, hole, stone, rope, slack, age

    boolean ship(int bow, int deck) {
        if (!port || bow < 0 || bow > 199 || deck < 0 || deck > 30) return false;
        ship = new int[] {bow, deck};
        lines.clear();
        return true;
    }

    int line(int hour, int hole, int stone, int kind, int slack) {
        if (ship == null || lines.size() == 6) return NONE;
        if (hour < 0 || hour > 99 || hole < 0 || hole > 80 || slack < 0 || slack > 20 || kind < 0) return NONE;
        if (stone < 0 || stone >= told.stones.size() || kind / 100 >= told.ropes.size()) return NONE;
        lines.add(new int[] {hour, hole, stone, kind / 100, slack, kind % 100});
        return lines.size() - 1;
    }

    private boolean noLine(int line) {
        return line < 0 || line >= lines.size();
    }

    boolean mend(int line, int hour, int slack) {
        if (noLine(line) || hour < 0 || hour > 99 || slack < 0 || slack > 20) return false;
        int[] l = lines.get(line);
        l[0] = hour;
        l[4] = slack;
        return true;
    }

    int letGo() {
        if (lines.isEmpty()) return NONE;
        lines.remove(lines.size() - 1);
        return lines.size();
    }

    private int lengthOf(int[] line, int hour, int u, int v) {
        int x = told.stones.get(line[2])[0];
        return Math.abs(x - ship[0] - line[1] - u) + 5 + v + Math.abs(ship[1] - water(hour));
    }

    private int laidOf(int[] line) {
        return lengthOf(line, line[0], 0, 0) + line[4];
    }

    private int pullOf(int[] line, int hour, int u, int v) {
        return told.ropes.get(line[3])[1] * Math.max(0, lengthOf(line, hour, u, v) - laidOf(line));
    }

    int of(int line, int what) {
        if (noLine(line)) return NONE;
        int[] l = lines.get(line);
        switch (what) {
            case 0: return l[1];
            case 1: return l[2];
            case 2: return l[3];
            case 3: return l[4];
            case 4: return l[5];
            case 5: return laidOf(l);
            default: return NONE;
        }
    }

    private boolean cantBe(int hour, int wind, int stream) {
        return hour < 0 || hour > 99 || wind < 0 || wind > 999 || stream < -99 || stream > 99;
    }

    private int[] forces(List<int[]> those, boolean[] hold, int[] weather, int u, int v) {
        int along = weather[2];
        int off = weather[1];
        for (int i = 0; i < those.size(); i++) {
            if (!hold[i]) continue;
            int[] l = those.get(i);
            int p = pullOf(l, weather[0], u, v);
            int x = told.stones.get(l[2])[0];
            int hole = ship[0] + l[1] + u;
            if (x > hole) along += p;
            if (x < hole) along -= p;
            off -= p;
        }
        if (v == 0 && off < 0) off = 0;
        return new int[] {along, off};
    }

    private int[] rest(List<int[]> those, boolean[] hold, int... weather) {
        int[] best = null;
        for (int u = -20; u <= 20; u++) {
            for (int v = 0; v <= 20; v++) {
                int[] f = forces(those, hold, weather, u, v);
                int[] way = {Math.abs(f[0]) + Math.abs(f[1]), Math.abs(u), u, v, f[0], f[1]};
                if (best == null || java.util.Arrays.compare(way, 0, 4, best, 0, 4) < 0) best = way;
            }
        }
        return new int[] {best[2], best[3], best[4], best[5]};
    }

    private static boolean[] all(int n) {
        boolean[] hold = new boolean[n];
        java.util.Arrays.fill(hold, true);
        return hold;
    }

    int rests(int hour, int wind, int stream, int what) {
        if (ship == null || cantBe(hour, wind, stream) || what < 0 || what > 3) return VOID;
        return rest(lines, all(lines.size()), hour, wind, stream)[what];
    }

    int pull(int hour, int wind, int stream, int line) {
        if (ship == null || cantBe(hour, wind, stream)) return NONE;
        if (line != NONE && noLine(line)) return NONE;
        int[] r = rest(lines, all(lines.size()), hour, wind, stream);
        int sum = 0;
        for (int i = 0; i < lines.size(); i++) {
            if (line == NONE || line == i) sum += pullOf(lines.get(i), hour, r[0], r[1]);
        }
        return sum;
    }

    /** What goes, in its order; 'hold' is left as it is then. */
    private List<Integer> gone(List<int[]> those, boolean[] hold, int hour, int wind, int stream) {
        List<Integer> gone = new ArrayList<>();
        while (true) {
            int[] r = rest(those, hold, hour, wind, stream);
            int most = 0;
            int which = NONE;
            for (int i = 0; i < those.size(); i++) {
                if (!hold[i]) continue;
                int bears = Math.max(0, told.ropes.get(those.get(i)[3])[0] - those.get(i)[5]);
                int over = pullOf(those.get(i), hour, r[0], r[1]) - bears;
                if (over > most) {
                    most = over;
                    which = i;
                }
            }
            for (int s = 0; s < told.stones.size(); s++) {
                int sum = 0;
                for (int i = 0; i < those.size(); i++) {
                    if (hold[i] && those.get(i)[2] == s) sum += pullOf(those.get(i), hour, r[0], r[1]);
                }
                if (sum - told.stones.get(s)[1] > most) {
                    most = sum - told.stones.get(s)[1];
                    which = 10 + s;
                }
            }
            if (which == NONE) return gone;
            gone.add(which);
            for (int i = 0; i < those.size(); i++) {
                if (i == which || those.get(i)[2] + 10 == which) hold[i] = false;
            }
        }
    }

    int goes(int hour, int wind, int stream, int k) {
        if (ship == null || cantBe(hour, wind, stream)) return NONE;
        List<Integer> gone = gone(lines, all(lines.size()), hour, wind, stream);
        if (k == NONE) return gone.size();
        return k >= 0 && k < gone.size() ? gone.get(k) : NONE;
    }

    int holds(int hour, int wind, int stream) {
        if (ship == null || cantBe(hour, wind, stream)) return NONE;
        boolean[] hold = all(lines.size());
        gone(lines, hold, hour, wind, stream);
        int bits = 0;
        for (int i = 0; i < hold.length; i++) if (hold[i]) bits += 1 << i;
        return bits;
    }

    int held(int hour, int stream) {
        if (ship == null || cantBe(hour, 0, stream)) return NONE;
        int held = NONE;
        for (int wind = 0; wind <= 999; wind++) {
            if (!gone(lines, all(lines.size()), hour, wind, stream).isEmpty()) break;
            held = wind;
        }
        return held;
    }

    int moved(int hour, int wind, int stream, int line, int u) {
        if (ship == null || cantBe(hour, wind, stream) || noLine(line) || u < -20 || u > 20) return NONE;
        for (int n = 1; n <= 20; n++) {
            List<int[]> those = new ArrayList<>(lines);
            those.set(line, lines.get(line).clone());
            those.get(line)[4] += n;
            if (rest(those, all(those.size()), hour, wind, stream)[0] == u) return n;
        }
        return NONE;
    }

    int best(int hour, int wind, int stream, int m, int k) {
        if (ship == null || cantBe(hour, wind, stream) || m < 1 || m > 3 || lines.size() < m || k < -1 || k >= m) return NONE;
        int least = Integer.MAX_VALUE;
        int[] best = null;
        int s = told.stones.size();
        for (int a = 0; a < s; a++) {
            for (int b = 0; b < (m > 1 ? s : 1); b++) {
                for (int c = 0; c < (m > 2 ? s : 1); c++) {
                    int[] stones = {a, b, c};
                    List<int[]> those = new ArrayList<>();
                    for (int i = 0; i < m; i++) {
                        those.add(lines.get(i).clone());
                        those.get(i)[2] = stones[i];
                    }
                    if (!gone(those, all(m), hour, wind, stream).isEmpty()) continue;
                    int[] r = rest(those, all(m), hour, wind, stream);
                    int greatest = 0;
                    for (int[] l : those) greatest = Math.max(greatest, loadOf(l, hour, r));
                    if (greatest < least) {
                        least = greatest;
                        best = stones;
                    }
                }
            }
        }
        if (best == null) return NONE;
        return k == NONE ? least : best[k];
    }

    private int loadOf(int[] line, int hour, int[] r) {
        return 1000 * pullOf(line, hour, r[0], r[1]) / Math.max(1, told.ropes.get(line[3])[0] - line[5]);
    }

    // ---- 3: calls: minute, men, how long, tugs

    int call(int minute, int men, int more) {
        if (!port || calls.size() == 6 || minute < 0 || minute > 999 || men < 1 || men > 20) return NONE;
        if (more < 10 || more / 10 > 200 || more % 10 > 6) return NONE;
        calls.add(new int[] {minute, men, more / 10, more % 10});
        return calls.size() - 1;
    }

    private int[] digits(int row) {
        if (!port || row < 0) return null;
        int[] gangs = new int[calls.size()];
        for (int c = 0; c < gangs.length; c++) {
            gangs[c] = row % 4;
            row /= 4;
            if (gangs[c] >= told.gangs.size() || told.gangs.get(gangs[c])[0] < calls.get(c)[1]) return null;
            if (calls.get(c)[3] > tugs()) return null;
        }
        return row == 0 ? gangs : null;
    }

    /** By call: when it begins, what is waited, whose that is (1, 2, 3). Minute by minute. */
    private List<int[]> meet(int[] gangs) {
        List<int[]> met = new ArrayList<>();
        int[] free = new int[4];
        List<Integer> tugs = new ArrayList<>();
        for (int i = 0; i < tugs(); i++) tugs.add(0);
        for (int c = 0; c < gangs.length; c++) {
            int[] call = calls.get(c);
            tugs.sort(null);
            int minute = call[0];
            int gangWaits = 0;
            int tugWaits = 0;
            while (true) {
                int ready = 0;
                for (int t : tugs) if (t <= minute) ready++;
                boolean gangReady = free[gangs[c]] <= minute;
                boolean tugsReady = ready >= call[3];
                if (gangReady && tugsReady) break;
                if (!gangReady) gangWaits++;
                if (!tugsReady) tugWaits++;
                minute++;
            }
            int whose = gangWaits > tugWaits ? 1 : tugWaits > gangWaits ? 2 : 3;
            met.add(new int[] {minute, minute - call[0], whose});
            for (int t = 0; t < call[3]; t++) tugs.set(t, minute + call[2]);
            free[gangs[c]] = minute + call[2] + told.gangs.get(gangs[c])[1];
        }
        return met;
    }

    int met(int row, int what) {
        int[] gangs = digits(row);
        if (gangs == null) return NONE;
        List<int[]> met = meet(gangs);
        if (what >= 10 && what < 10 + met.size()) return met.get(what - 10)[0];
        if (what < 0 || what > 3) return NONE;
        int sum = 0;
        for (int[] m : met) if (what == 0 || what == m[2]) sum += m[1];
        return sum;
    }

    int least() {
        int best = NONE;
        for (int row = 0; row < Math.pow(4, calls.size()); row++) {
            int waited = met(row, 0);
            if (waited != NONE && (best == NONE || waited < met(best, 0))) best = row;
        }
        return best;
    }

    int pay(int row, int gang) {
        int[] gangs = digits(row);
        if (gangs == null || gang < 0 || gang >= told.gangs.size()) return NONE;
        int[] wage = told.pay == null ? new int[3] : told.pay;
        List<int[]> met = meet(gangs);
        int sum = 0;
        for (int c = 0; c < gangs.length; c++) {
            if (gangs[c] != gang) continue;
            int early = 0;
            for (int m = met.get(c)[0]; m < met.get(c)[0] + calls.get(c)[2]; m++) if (m % 1440 < 360) early++;
            sum += wage[0] + wage[1] * (int) Math.ceil(met.get(c)[1] / 15.0) + wage[2] * (int) Math.ceil(early / 60.0);
        }
        return sum;
    }

    // ---- 4: rings: home, gang, whose turn it was

    int ring(int home, int gang) {
        if (turn(home) == NONE || rings.size() == 20 || gang < 0 || gang > 3 || (home >> gang) % 2 == 0) return NONE;
        rings.add(new int[] {home, gang, turn(home)});
        return rings.size();
    }

    int undo() {
        if (rings.isEmpty()) return NONE;
        rings.remove(rings.size() - 1);
        return rings.size();
    }

    int turn(int home) {
        if (!port || home < 1 || home >= Math.pow(2, told.gangs.size())) return NONE;
        List<Integer> waiting = new ArrayList<>();
        for (int g = 0; g < 4; g++) if ((home >> g) % 2 == 1) waiting.add(g);
        for (int i = rings.size() - 1; i >= 0 && waiting.size() > 1; i--) {
            waiting.remove((Integer) rings.get(i)[1]);
        }
        return waiting.get(0);
    }

    int luck(int gang, int what) {
        if (!port || gang < 0 || gang >= told.gangs.size() || what < 0 || what > 2) return NONE;
        int rung = 0;
        int luck = 0;
        for (int[] r : rings) {
            if (r[1] == gang) rung++;
            if (r[1] == gang && r[2] != gang) luck++;
        }
        if (what < 2) return what == 0 ? rung : luck;
        BigInteger all = BigInteger.ONE;
        for (int[] r : rings) all = all.multiply(BigInteger.valueOf(Integer.bitCount(r[0])));
        return waysWith(gang, 0, luck).multiply(BigInteger.valueOf(1000)).divide(all).intValueExact();
    }

    /** How many ways from a ring on give so much luck or more. */
    private BigInteger waysWith(int gang, int from, int luck) {
        return waysWith(gang, from, luck, new HashMap<>());
    }

    private BigInteger waysWith(int gang, int from, int luck, Map<Integer, BigInteger> known) {
        if (from == rings.size()) return luck <= 0 ? BigInteger.ONE : BigInteger.ZERO;
        int key = from * 100 + luck + 30;
        if (known.containsKey(key)) return known.get(key);
        BigInteger sum = BigInteger.ZERO;
        int[] r = rings.get(from);
        for (int g = 0; g < 4; g++) {
            if ((r[0] >> g) % 2 == 0) continue;
            boolean lucky = g == gang && r[2] != gang;
            sum = sum.add(waysWith(gang, from + 1, lucky ? luck - 1 : luck, known));
        }
        known.put(key, sum);
        return sum;
    }

    // ---- 5: visits: length, draft, hour, stay, place, laid hour

    int depth(int place) {
        if (!port || place < 0 || place > 200) return NONE;
        int depth = 0;
        for (int[] s : told.stretches) if (s[0] <= place && place <= s[1]) depth = s[2];
        return depth;
    }

    int visit(int size, int time) {
        if (!port || visits.size() == 5 || size < 1000 || size >= 15100 || size % 100 < 1 || size % 100 > 40) return NONE;
        if (time < 0 || time >= 10000 || time % 100 < 1 || time % 100 > 48) return NONE;
        visits.add(new int[] {size / 100, size % 100, time / 100, time % 100, NONE, NONE});
        return visits.size() - 1;
    }

    private boolean noVisit(int visit) {
        return visit < 0 || visit >= visits.size();
    }

    private int shallow(int place, int length) {
        int least = 99;
        for (int p = place; p <= place + length; p++) least = Math.min(least, depth(p));
        return least;
    }

    int fits(int visit, int place, int hour) {
        if (noVisit(visit)) return NONE;
        int[] v = visits.get(visit);
        if (hour < v[2]) return 1;
        if (place < 0 || place > 200 - v[0] || hour > 199) return 2;
        int least = shallow(place, v[0]);
        if (least + water(hour) < v[1] + 1) return 3;
        if (least + water(hour + v[3]) < v[1] + 1) return 4;
        for (int i = 0; i < visits.size(); i++) {
            int[] o = visits.get(i);
            if (i == visit || o[5] == NONE) continue;
            boolean common = false;
            for (int h = hour; h < hour + v[3]; h++) if (h >= o[5] && h < o[5] + o[3]) common = true;
            int between = place > o[4] ? place - o[4] - o[0] : o[4] - place - v[0];
            if (common && between < 10) return 50 + i;
        }
        return 0;
    }

    boolean lay(int visit, int place, int hour) {
        if (fits(visit, place, hour) != 0) return false;
        visits.get(visit)[4] = place;
        visits.get(visit)[5] = hour;
        return true;
    }

    boolean lift(int visit) {
        if (noVisit(visit) || visits.get(visit)[5] == NONE) return false;
        visits.get(visit)[4] = NONE;
        visits.get(visit)[5] = NONE;
        return true;
    }

    int about(int visit, int what) {
        if (noVisit(visit) || what < 0 || what > 6) return NONE;
        int[] v = visits.get(visit);
        if (what < 6) return v[what];
        if (v[5] == NONE) return NONE;
        int aground = 0;
        for (int h = v[5]; h < v[5] + v[3]; h++) if (shallow(v[4], v[0]) + water(h) < v[1]) aground++;
        return aground;
    }

    int firstFit(int visit) {
        if (noVisit(visit) || visits.get(visit)[5] != NONE) return NONE;
        for (int hour = visits.get(visit)[2]; hour <= 199; hour++) {
            for (int place = 0; place <= 200; place += 10) {
                if (fits(visit, place, hour) == 0) return hour * 1000 + place;
            }
        }
        return NONE;
    }

    int plan(int k) {
        if (!port || k < NONE || k >= visits.size()) return NONE;
        List<int[]> kept = visits;
        int[] best = null;
        for (List<Integer> order : orders(unlaid())) {
            visits = new ArrayList<>();
            for (int[] v : kept) visits.add(v.clone());
            int waited = 0;
            boolean all = true;
            for (int v : order) {
                int fit = firstFit(v);
                all = all && fit != NONE && lay(v, fit % 1000, fit / 1000);
                if (!all) break;
                waited += fit / 1000 - visits.get(v)[2];
            }
            if (all && (best == null || waited < best[visits.size()])) {
                best = new int[visits.size() + 1];
                for (int v = 0; v < visits.size(); v++) best[v] = visits.get(v)[5] * 1000 + visits.get(v)[4];
                best[visits.size()] = waited;
            }
        }
        visits = kept;
        if (best == null) return NONE;
        return k == NONE ? best[visits.size()] : best[k];
    }

    private List<Integer> unlaid() {
        List<Integer> those = new ArrayList<>();
        for (int v = 0; v < visits.size(); v++) if (visits.get(v)[5] == NONE) those.add(v);
        return those;
    }

    /** All orders, the first one first. */
    private static List<List<Integer>> orders(List<Integer> those) {
        List<List<Integer>> all = new ArrayList<>();
        if (those.isEmpty()) all.add(new ArrayList<>());
        for (Integer first : those) {
            List<Integer> others = new ArrayList<>(those);
            others.remove(first);
            for (List<Integer> rest : orders(others)) {
                List<Integer> order = new ArrayList<>();
                order.add(first);
                order.addAll(rest);
                all.add(order);
            }
        }
        return all;
    }

    // ---- 6: tasks: minutes, by, worth

    int task(int minutes, int by, int worth) {
        if (!port || tasks.size() == 6 || minutes < 1 || minutes > 200 || by < 0 || by > 999 || worth < 1 || worth > 99) return NONE;
        tasks.add(new int[] {minutes, by, worth});
        return tasks.size() - 1;
    }

    int storm(int parties, int k) {
        if (!port || parties < 1 || parties > 2 || k < NONE || k >= tasks.size()) return NONE;
        List<Integer> numbers = new ArrayList<>();
        for (int t = 0; t < tasks.size(); t++) numbers.add(t);
        int least = Integer.MAX_VALUE;
        int answer = NONE;
        for (List<Integer> row : orders(numbers)) {
            for (int n = 0; n <= row.size(); n++) {
                if (parties == 1 && n < row.size()) continue;
                int[] clock = new int[2];
                int lost = 0;
                for (int i = 0; i < row.size(); i++) {
                    int[] t = tasks.get(row.get(i));
                    int party = i < n ? 0 : 1;
                    clock[party] += t[0];
                    if (clock[party] > t[1]) lost += t[2];
                }
                if (lost < least) {
                    least = lost;
                    answer = k == NONE ? lost : row.get(k) * 10 + (k < n ? 0 : 1);
                }
            }
        }
        return answer;
    }

    // ---- 7: the log and the images

    int weather(int hour, int wind, int stream) {
        if (!port || log.size() == 12 || cantBe(hour, wind, stream)) return NONE;
        log.add(new int[] {hour, wind, stream});
        return log.size();
    }

    int blame(int line, int what) {
        if (noLine(line) || log.isEmpty() || what < 0 || what > 2) return NONE;
        int greatest = -1;
        int first = -1;
        boolean above = false;
        boolean small = true;
        for (int i = 0; i < log.size(); i++) {
            int[] r = rest(lines, all(lines.size()), log.get(i));
            int load = loadOf(lines.get(line), log.get(i)[0], r);
            if (load > greatest) {
                greatest = load;
                first = i;
            }
            above = above || load > 1000;
            small = small && load <= 500;
        }
        return what == 0 ? greatest : what == 1 ? first : above ? 1 : small ? 0 : 2;
    }

    private static List<int[]> copy(List<int[]> rows) {
        List<int[]> copy = new ArrayList<>();
        for (int[] r : rows) copy.add(r.clone());
        return copy;
    }

    boolean image(int k) {
        if (ship == null || k < 0 || k > 2) return false;
        imageShips.put(k, ship.clone());
        imageLines.put(k, copy(lines));
        return true;
    }

    boolean back(int k) {
        if (!imageShips.containsKey(k)) return false;
        ship = imageShips.get(k).clone();
        lines = copy(imageLines.get(k));
        return true;
    }

    int count(int what) {
        switch (what) {
            case 0: return told.stones.size();
            case 1: return told.ropes.size();
            case 2: return told.gangs.size();
            case 3: return tugs();
            case 4: return lines.size();
            case 5: return calls.size();
            case 6: return rings.size();
            case 7: return text.length();
            case 8: return told.stretches.size();
            case 9: return visits.size();
            case 10: return tasks.size();
            case 11: return log.size();
            default: return NONE;
        }
    }
}
