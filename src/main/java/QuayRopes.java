import java.util.Arrays;

/**
 * Ropes on the quay: a port told in a text, a ship and her lines, gangs and tugs, visits,
 * a storm night's work and a log of weather. Words in capitals are the document's terms.
 */
public final class QuayRopes {
    /** There is none. */
    public static final int NONE = -1;
    /** There is none of what may be below 0. */
    public static final int VOID = -2147483648;

    private static final int LONGEST_TEXT = 500;
    private static final int FED_AT_ONCE = 20;
    private static final int LAST_HOUR = 99;
    private static final int STRONGEST_WIND = 999;
    private static final int STRONGEST_STREAM = 99;

    // The kinds of what a PORT's text tells. The tables below have one entry for each kind.
    private static final int STONE = 0;
    private static final int ROPE = 1;
    private static final int DEEP = 2;
    private static final int TIDE = 3;
    private static final int GANG = 4;
    private static final int TUGS = 5;
    private static final int PAY = 6;
    private static final int KINDS = 7;
    private static final int[] MOST_TOLD = {8, 4, 4, 1, 4, 1, 1};
    private static final int[] FIELDS = {2, 2, 3, 6, 2, 1, 3};
    // Where a kind's numbers begin in a PORT: each kind has MOST_TOLD times FIELDS of them.
    private static final int[] NUMBERS_AT = {0, 16, 24, 36, 42, 50, 51};
    private static final int ALL_NUMBERS = 54;
    // Where a kind's limits begin in the two tables behind: each kind has FIELDS of them.
    private static final int[] FIRST_LIMIT = {0, 2, 4, 7, 13, 15, 16};
    private static final int[] LEAST_NUMBER =
        {0, 1, 1, 1, 0, 0, 0, 0, 0, 0, 0, 0, 0, 1, 0, 0, 0, 0, 0};
    private static final int[] GREATEST_NUMBER =
        {199, 999, 999, 20, 200, 200, 40, 9, 9, 9, 9, 9, 9, 20, 600, 6, 99, 99, 99};
    // A number that no field can be, however many digits follow.
    private static final int TOO_GREAT = 10000;

    private static final int MOST_GANGS = 4;
    private static final int MOST_TUGS = 6;
    private static final int MOST_LINES = 6;
    private static final int MOST_CALLS = 6;
    private static final int MOST_RINGS = 20;
    private static final int MOST_VISITS = 5;
    private static final int MOST_TASKS = 6;
    private static final int MOST_ROWS = 12;
    // So many orders six numbers have.
    private static final int MOST_ORDERS = 720;
    private static final int IMAGES = 3;

    private static final int LAST_PLACE = 200;
    private static final int LAST_LAID_HOUR = 199;
    private static final int BETWEEN_VISITS = 10;
    private static final int TENS = 20;

    // Ranks stand for u in the order in which it is preferred: 0, -1, 1, -2, 2, .. 20.
    private static final int RANKS = 41;
    private static final int FARTHEST = 20;
    private static final int OFFS = 21;
    private static final int SPOTS = 861;
    // Above every sum that is compared with it.
    private static final int ABOVE_ALL = 1000000;

    private final Scroll text = new Scroll();
    private Port port = new Port();
    private Port draft = new Port();
    private final Ship ship = new Ship();
    private final Ship[] images = new Ship[IMAGES];
    private final Mooring mooring = new Mooring();
    private final Gale gale = new Gale();
    private final Calls calls = new Calls();
    private final Rings rings = new Rings();
    private final Berths berths = new Berths();
    private final Night night = new Night();
    private final Order order = new Order();
    private final Log log = new Log();

    public QuayRopes() {
        for (int k = 0; k < images.length; k++) {
            images[k] = new Ship();
        }
    }

    public int feed(int a, int b, int c, int d, int e) {
        if (text.length > LONGEST_TEXT - FED_AT_ONCE) {
            return NONE;
        }
        text.add(a);
        text.add(b);
        text.add(c);
        text.add(d);
        text.add(e);
        return text.length;
    }

    public boolean end(int n) {
        if (!within(n, 0, text.length)) {
            return false;
        }
        text.length = n;
        return true;
    }

    public int fault() {
        return text.readInto(draft);
    }

    public int port() {
        if (text.readInto(draft) != NONE) {
            return NONE;
        }
        Port old = port;
        port = draft;
        draft = old;
        text.length = 0;
        ship.afloat = false;
        ship.lines = 0;
        for (int k = 0; k < IMAGES; k++) {
            Ship image = imageAt(k);
            if (image != null) {
                image.afloat = false;
            }
        }
        calls.count = 0;
        rings.count = 0;
        berths.count = 0;
        night.count = 0;
        log.count = 0;
        return port.toldOf(STONE);
    }

    public boolean ship(int bow, int deck) {
        if (!port.stands() || !within(bow, 0, 199) || !within(deck, 0, 30)) {
            return false;
        }
        ship.comeIn(bow, deck);
        return true;
    }

    public int line(int hour, int hole, int stone, int kind, int slack) {
        if (!ship.afloat || ship.lines >= MOST_LINES) {
            return NONE;
        }
        if (!within(stone, 0, port.toldOf(STONE) - 1)
            || !within(kind, 0, port.toldOf(ROPE) * 100 - 1)) {
            return NONE;
        }
        if (!within(hole, 0, 80) || !mayMakeFast(hour, slack)) {
            return NONE;
        }
        ship.addLine(hole, stone, kind / 100, kind % 100);
        ship.makeFast(ship.lines - 1, hour, slack);
        return ship.lines - 1;
    }

    public boolean mend(int line, int hour, int slack) {
        if (!ship.hasLine(line) || !mayMakeFast(hour, slack)) {
            return false;
        }
        ship.makeFast(line, hour, slack);
        return true;
    }

    public int letGo() {
        if (ship.lines < 1) {
            return NONE;
        }
        ship.lines--;
        return ship.lines;
    }

    public int of(int line, int what) {
        if (!ship.hasLine(line)) {
            return NONE;
        }
        switch (what) {
            case 0: return at(ship.hole, line);
            case 1: return at(ship.stone, line);
            case 2: return at(ship.rope, line);
            case 3: return at(ship.slack, line);
            case 4: return at(ship.age, line);
            case 5: return ship.laidLength(port, line);
            default: return NONE;
        }
    }

    public int rests(int hour, int wind, int stream, int what) {
        if (!layToRest(hour, wind, stream)) {
            return VOID;
        }
        switch (what) {
            case 0: return mooring.u;
            case 1: return mooring.v;
            case 2: return mooring.along;
            case 3: return mooring.off;
            default: return VOID;
        }
    }

    public int pull(int hour, int wind, int stream, int line) {
        if (!layToRest(hour, wind, stream)) {
            return NONE;
        }
        if (line == NONE) {
            return mooring.allPulls();
        }
        return ship.hasLine(line) ? at(mooring.pulls, line) : NONE;
    }

    public int goes(int hour, int wind, int stream, int k) {
        if (!maySail(hour, wind, stream)) {
            return NONE;
        }
        mooring.moor(port, ship, ship.lines, hour);
        gale.blow(mooring, port, wind, stream);
        if (k == NONE) {
            return gale.times;
        }
        return within(k, 0, gale.times - 1) ? at(gale.gone, k) : NONE;
    }

    public int holds(int hour, int wind, int stream) {
        if (!maySail(hour, wind, stream)) {
            return NONE;
        }
        mooring.moor(port, ship, ship.lines, hour);
        gale.blow(mooring, port, wind, stream);
        return mooring.holding;
    }

    public int held(int hour, int stream) {
        if (!maySail(hour, 0, stream)) {
            return NONE;
        }
        mooring.moor(port, ship, ship.lines, hour);
        return gale.greatestWind(mooring, port, stream);
    }

    public int moved(int hour, int wind, int stream, int line, int u) {
        if (!maySail(hour, wind, stream) || !ship.hasLine(line) || !within(u, -FARTHEST, FARTHEST)) {
            return NONE;
        }
        mooring.moor(port, ship, ship.lines, hour);
        for (int n = 1; n <= 20; n++) {
            mooring.slacken(line);
            mooring.settle(wind, stream);
            if (mooring.u == u) {
                return n;
            }
        }
        return NONE;
    }

    public int best(int hour, int wind, int stream, int m, int k) {
        if (!maySail(hour, wind, stream) || !within(m, 1, 3) || m > ship.lines) {
            return NONE;
        }
        if (!within(k, NONE, m - 1)) {
            return NONE;
        }
        mooring.moor(port, ship, m, hour);
        if (!gale.layBest(mooring, port, ship, wind, stream)) {
            return NONE;
        }
        return k == NONE ? gale.bestLoad : at(gale.bestStones, k);
    }

    public int call(int minute, int men, int more) {
        if (!port.stands() || calls.count >= MOST_CALLS) {
            return NONE;
        }
        if (!within(minute, 0, 999) || !within(men, 1, 20)) {
            return NONE;
        }
        if (!within(more, 0, 2009) || !within(more / 10, 1, 200) || !within(more % 10, 0, 6)) {
            return NONE;
        }
        calls.add(minute, men, more / 10, more % 10);
        return calls.count - 1;
    }

    public int met(int row, int what) {
        if (!port.stands() || !calls.isLawful(port, row)) {
            return NONE;
        }
        calls.meet(port, row);
        switch (what) {
            case 0: return calls.waited;
            case 1: return calls.byGangs;
            case 2: return calls.byTugs;
            case 3: return calls.byBoth;
            default: break;
        }
        return within(what, 10, 9 + calls.count) ? at(calls.begin, what - 10) : NONE;
    }

    public int least() {
        return port.stands() ? calls.leastRow(port) : NONE;
    }

    public int pay(int row, int gang) {
        if (!within(gang, 0, port.toldOf(GANG) - 1) || !calls.isLawful(port, row)) {
            return NONE;
        }
        calls.meet(port, row);
        return calls.payOf(port, row, gang);
    }

    public int ring(int home, int gang) {
        if (!mayBeHome(home) || rings.count >= MOST_RINGS) {
            return NONE;
        }
        if (!within(gang, 0, port.toldOf(GANG) - 1) || !hasBit(home, gang)) {
            return NONE;
        }
        rings.add(home, gang);
        return rings.count;
    }

    public int undo() {
        if (rings.count < 1) {
            return NONE;
        }
        rings.count--;
        return rings.count;
    }

    public int turn(int home) {
        return mayBeHome(home) ? rings.turnBehind(rings.count, home) : NONE;
    }

    public int luck(int gang, int what) {
        if (!within(gang, 0, port.toldOf(GANG) - 1)) {
            return NONE;
        }
        switch (what) {
            case 0: return rings.timesRung(gang);
            case 1: return rings.luckOf(gang);
            case 2: return rings.chanceOf(gang);
            default: return NONE;
        }
    }

    public int depth(int place) {
        return port.stands() && within(place, 0, LAST_PLACE) ? port.depthAt(place) : NONE;
    }

    public int visit(int size, int time) {
        if (!port.stands() || berths.count >= MOST_VISITS) {
            return NONE;
        }
        if (!within(size / 100, 10, 150) || !within(size % 100, 1, 40)) {
            return NONE;
        }
        if (!within(time / 100, 0, LAST_HOUR) || !within(time % 100, 1, 48)) {
            return NONE;
        }
        berths.add(port, size, time);
        return berths.count - 1;
    }

    public int fits(int visit, int place, int hour) {
        return berths.hasVisit(visit) ? berths.reasonAgainst(port, visit, place, hour) : NONE;
    }

    public boolean lay(int visit, int place, int hour) {
        if (!berths.hasVisit(visit) || berths.reasonAgainst(port, visit, place, hour) != 0) {
            return false;
        }
        berths.putAt(visit, place, hour);
        return true;
    }

    public boolean lift(int visit) {
        if (!berths.hasVisit(visit) || !berths.isLaid(visit)) {
            return false;
        }
        berths.putAt(visit, NONE, NONE);
        return true;
    }

    public int about(int visit, int what) {
        if (!berths.hasVisit(visit)) {
            return NONE;
        }
        switch (what) {
            case 0: return at(berths.length, visit);
            case 1: return at(berths.draft, visit);
            case 2: return at(berths.comes, visit);
            case 3: return at(berths.stays, visit);
            case 4: return at(berths.place, visit);
            case 5: return at(berths.hour, visit);
            case 6: return berths.isLaid(visit) ? berths.hoursAground(port, visit) : NONE;
            default: return NONE;
        }
    }

    public int firstFit(int visit) {
        if (!berths.hasVisit(visit) || berths.isLaid(visit)) {
            return NONE;
        }
        return berths.earliest(port, visit);
    }

    public int plan(int k) {
        if (!port.stands() || !within(k, NONE, berths.count - 1)) {
            return NONE;
        }
        if (!berths.planAll(port, order)) {
            return NONE;
        }
        return k == NONE ? berths.leastWaited : at(berths.planned, k);
    }

    public int task(int minutes, int by, int worth) {
        if (!port.stands() || night.count >= MOST_TASKS) {
            return NONE;
        }
        if (!within(minutes, 1, 200) || !within(by, 0, 999) || !within(worth, 1, 99)) {
            return NONE;
        }
        night.add(minutes, by, worth);
        return night.count - 1;
    }

    public int storm(int parties, int k) {
        if (!port.stands() || !within(parties, 1, 2) || !within(k, NONE, night.count - 1)) {
            return NONE;
        }
        night.findLeast(parties, order);
        if (k == NONE) {
            return night.leastLost;
        }
        return at(night.leastRow, k) * 10 + (k < night.leastFirst ? 0 : 1);
    }

    public int weather(int hour, int wind, int stream) {
        if (!port.stands() || log.count >= MOST_ROWS || !mayBlow(hour, wind, stream)) {
            return NONE;
        }
        log.add(hour, wind, stream);
        return log.count;
    }

    public int blame(int line, int what) {
        if (log.count < 1 || !ship.hasLine(line)) {
            return NONE;
        }
        log.findGreatest(mooring, port, ship, line);
        switch (what) {
            case 0: return log.greatest;
            case 1: return log.greatestRow;
            case 2: return log.verdict();
            default: return NONE;
        }
    }

    public boolean image(int k) {
        Ship image = imageAt(k);
        if (image == null || !ship.afloat) {
            return false;
        }
        image.copy(ship);
        return true;
    }

    public boolean back(int k) {
        Ship image = imageAt(k);
        if (image == null || !image.afloat) {
            return false;
        }
        ship.copy(image);
        return true;
    }

    public int count(int what) {
        switch (what) {
            case 0: return port.toldOf(STONE);
            case 1: return port.toldOf(ROPE);
            case 2: return port.toldOf(GANG);
            case 3: return port.tugs();
            case 4: return ship.lines;
            case 5: return calls.count;
            case 6: return rings.count;
            case 7: return text.length;
            case 8: return port.toldOf(DEEP);
            case 9: return berths.count;
            case 10: return night.count;
            case 11: return log.count;
            default: return NONE;
        }
    }

    private Ship imageAt(int k) {
        return k >= 0 && k < images.length ? images[k] : null;
    }

    private static boolean mayMakeFast(int hour, int slack) {
        return within(hour, 0, LAST_HOUR) && within(slack, 0, 20);
    }

    private static boolean mayBlow(int hour, int wind, int stream) {
        return within(hour, 0, LAST_HOUR) && within(wind, 0, STRONGEST_WIND)
            && within(stream, -STRONGEST_STREAM, STRONGEST_STREAM);
    }

    private boolean maySail(int hour, int wind, int stream) {
        return ship.afloat && mayBlow(hour, wind, stream);
    }

    /** Whether she can rest then; if so, the mooring has her at rest with all LINES. */
    private boolean layToRest(int hour, int wind, int stream) {
        if (!maySail(hour, wind, stream)) {
            return false;
        }
        mooring.moor(port, ship, ship.lines, hour);
        mooring.settle(wind, stream);
        return true;
    }

    private boolean mayBeHome(int home) {
        return within(home, 1, (1 << port.toldOf(GANG)) - 1);
    }

    private static boolean within(int value, int from, int to) {
        return value >= from && value <= to;
    }

    private static boolean hasBit(int bits, int i) {
        return ((bits >> i) & 1) == 1;
    }

    /** A row's number; 0 for a place that it has not. */
    private static int at(int[] row, int i) {
        return i >= 0 && i < row.length ? row[i] : 0;
    }

    private static void put(int[] row, int i, int value) {
        if (i >= 0 && i < row.length) {
            row[i] = value;
        }
    }

    /** The text of a PORT, and the reading of it. */
    private static final class Scroll {
        final int[] bytes = new int[LONGEST_TEXT];
        int length;
        private int here;

        Scroll() {
        }

        void add(int four) {
            for (int shift = 24; shift >= 0; shift -= 8) {
                put(bytes, length, (four >> shift) & 255);
                length++;
            }
        }

        /** The FAULT; without one the PORT is what the text tells. */
        int readInto(Port port) {
            port.clear();
            here = 0;
            skipBlanks();
            for (int told = 0; told < LONGEST_TEXT && here < length; told++) {
                int fault = readOne(port);
                if (fault != NONE) {
                    return fault;
                }
                skipBlanks();
            }
            return port.toldOf(STONE) > 0 && port.toldOf(ROPE) > 0 ? NONE : length;
        }

        /** Each token that is looked for begins at 'here', which is the length at the end. */
        private int readOne(Port port) {
            int first = here;
            int kind = readKind();
            if (!port.hasRoom(kind)) {
                return first;
            }
            for (int field = 0; field < at(FIELDS, kind); field++) {
                skipBlanks();
                int begin = here;
                int number = readNumber();
                if (!port.mayTell(kind, field, number)) {
                    return begin;
                }
                port.tell(kind, field, number);
            }
            skipBlanks();
            if (byteHere() != ';') {
                return here;
            }
            here++;
            port.endRow(kind);
            return NONE;
        }

        private int byteHere() {
            return here < length ? at(bytes, here) : NONE;
        }

        private void skipBlanks() {
            while (here < length && (at(bytes, here) == ' ' || at(bytes, here) == '\n')) {
                here++;
            }
        }

        /** NONE, if no word begins here, or one that tells nothing. */
        private int readKind() {
            int from = here;
            while (here < length && within(at(bytes, here), 'a', 'z')) {
                here++;
            }
            return kindOf(from);
        }

        private int kindOf(int from) {
            if (spells("stone", from)) {
                return STONE;
            }
            if (spells("rope", from)) {
                return ROPE;
            }
            if (spells("deep", from)) {
                return DEEP;
            }
            if (spells("tide", from)) {
                return TIDE;
            }
            if (spells("gang", from)) {
                return GANG;
            }
            if (spells("tugs", from)) {
                return TUGS;
            }
            return spells("pay", from) ? PAY : NONE;
        }

        private boolean spells(String word, int from) {
            if (here - from != word.length()) {
                return false;
            }
            for (int i = 0; i < word.length(); i++) {
                if (at(bytes, from + i) != word.charAt(i)) {
                    return false;
                }
            }
            return true;
        }

        /** NONE, if no number begins here. */
        private int readNumber() {
            int number = NONE;
            while (here < length && within(at(bytes, here), '0', '9')) {
                int digit = at(bytes, here) - '0';
                number = number == NONE ? digit : Math.min(number * 10 + digit, TOO_GREAT);
                here++;
            }
            return number;
        }
    }

    /** What a text told; nothing at first, and then there is no PORT. */
    private static final class Port {
        private final int[] numbers = new int[ALL_NUMBERS];
        private final int[] told = new int[KINDS];

        Port() {
        }

        void clear() {
            Arrays.fill(numbers, 0);
            Arrays.fill(told, 0);
        }

        /** A PORT has at least one STONE. */
        boolean stands() {
            return toldOf(STONE) > 0;
        }

        int toldOf(int kind) {
            return at(told, kind);
        }

        boolean hasRoom(int kind) {
            return within(kind, 0, KINDS - 1) && toldOf(kind) < at(MOST_TOLD, kind);
        }

        boolean mayTell(int kind, int field, int number) {
            int limit = at(FIRST_LIMIT, kind) + field;
            if (!within(number, at(LEAST_NUMBER, limit), at(GREATEST_NUMBER, limit))) {
                return false;
            }
            if (kind == STONE && field == 0) {
                return !hasStoneAt(number);
            }
            if (kind == DEEP && field == 1) {
                return number > at(numbers, at(NUMBERS_AT, DEEP) + 3 * toldOf(DEEP));
            }
            return true;
        }

        private boolean hasStoneAt(int place) {
            for (int i = 0; i < toldOf(STONE); i++) {
                if (stonePlace(i) == place) {
                    return true;
                }
            }
            return false;
        }

        void tell(int kind, int field, int number) {
            put(numbers, at(NUMBERS_AT, kind) + toldOf(kind) * at(FIELDS, kind) + field, number);
        }

        void endRow(int kind) {
            put(told, kind, toldOf(kind) + 1);
        }

        int stonePlace(int stone) {
            return at(numbers, at(NUMBERS_AT, STONE) + 2 * stone);
        }

        int stoneBears(int stone) {
            return at(numbers, at(NUMBERS_AT, STONE) + 2 * stone + 1);
        }

        int ropeBears(int rope) {
            return at(numbers, at(NUMBERS_AT, ROPE) + 2 * rope);
        }

        int ropePulls(int rope) {
            return at(numbers, at(NUMBERS_AT, ROPE) + 2 * rope + 1);
        }

        int water(int hour) {
            return at(numbers, at(NUMBERS_AT, TIDE) + Math.floorMod(hour, 12) / 2);
        }

        int men(int gang) {
            return at(numbers, at(NUMBERS_AT, GANG) + 2 * gang);
        }

        int sleep(int gang) {
            return at(numbers, at(NUMBERS_AT, GANG) + 2 * gang + 1);
        }

        int tugs() {
            return at(numbers, at(NUMBERS_AT, TUGS));
        }

        int wage(int which) {
            return at(numbers, at(NUMBERS_AT, PAY) + which);
        }

        int depthAt(int place) {
            for (int i = toldOf(DEEP) - 1; i >= 0; i--) {
                int from = at(NUMBERS_AT, DEEP) + 3 * i;
                if (within(place, at(numbers, from), at(numbers, from + 1))) {
                    return at(numbers, from + 2);
                }
            }
            return 0;
        }

        int leastDepth(int place, int length) {
            int least = depthAt(place);
            for (int i = 1; i <= length; i++) {
                least = Math.min(least, depthAt(place + i));
            }
            return least;
        }
    }

    /** The SHIP and her LINES, now or in an IMAGE. */
    private static final class Ship {
        boolean afloat;
        int bow;
        int deck;
        int lines;
        final int[] hour = new int[MOST_LINES];
        final int[] hole = new int[MOST_LINES];
        final int[] stone = new int[MOST_LINES];
        final int[] rope = new int[MOST_LINES];
        final int[] slack = new int[MOST_LINES];
        final int[] age = new int[MOST_LINES];

        Ship() {
        }

        void comeIn(int newBow, int newDeck) {
            afloat = true;
            bow = newBow;
            deck = newDeck;
            lines = 0;
        }

        boolean hasLine(int line) {
            return within(line, 0, lines - 1);
        }

        void addLine(int newHole, int newStone, int newRope, int newAge) {
            put(hole, lines, newHole);
            put(stone, lines, newStone);
            put(rope, lines, newRope);
            put(age, lines, newAge);
            lines++;
        }

        void makeFast(int line, int newHour, int newSlack) {
            put(hour, line, newHour);
            put(slack, line, newSlack);
        }

        /** How far along the quay a STONE is from a LINE's HOLE; below 0 if it is behind. */
        int wayTo(Port port, int line, int toStone) {
            return port.stonePlace(toStone) - bow - at(hole, line);
        }

        /** What a LENGTH has in an hour beside the ways along and off the quay. */
        int fixedLength(Port port, int inHour) {
            return 5 + Math.abs(deck - port.water(inHour));
        }

        /** What a LAID length has beside the way along the quay. */
        int fixedLaid(Port port, int line) {
            return fixedLength(port, at(hour, line)) + at(slack, line);
        }

        int laidLength(Port port, int line) {
            return Math.abs(wayTo(port, line, at(stone, line))) + fixedLaid(port, line);
        }

        void copy(Ship other) {
            afloat = other.afloat;
            bow = other.bow;
            deck = other.deck;
            lines = other.lines;
            System.arraycopy(other.hour, 0, hour, 0, MOST_LINES);
            System.arraycopy(other.hole, 0, hole, 0, MOST_LINES);
            System.arraycopy(other.stone, 0, stone, 0, MOST_LINES);
            System.arraycopy(other.rope, 0, rope, 0, MOST_LINES);
            System.arraycopy(other.slack, 0, slack, 0, MOST_LINES);
            System.arraycopy(other.age, 0, age, 0, MOST_LINES);
        }
    }

    /** The LINES in one hour: where the ship rests by them, and what is OVER then. */
    private static final class Mooring {
        int count;
        int holding;
        int u;
        int v;
        int along;
        int off;
        final int[] pulls = new int[MOST_LINES];
        private boolean spread;
        private final int[] way = new int[MOST_LINES];
        // A LINE pulls, where its ways along and off the quay are more than its room, which is
        // the way along as it was laid and what its LAID length has to spare beside.
        private final int[] room = new int[MOST_LINES];
        private final int[] spare = new int[MOST_LINES];
        private final int[] hard = new int[MOST_LINES];
        private final int[] bears = new int[MOST_LINES];
        final int[] stone = new int[MOST_LINES];
        // By spot (rank of u, then v), of the LINES that hold: PULLS along the quay, and all.
        private final int[] alongAt = new int[SPOTS];
        private final int[] pullAt = new int[SPOTS];

        Mooring() {
        }

        /** The ship's first LINES hold in an hour, the others are not there. */
        void moor(Port port, Ship ship, int lines, int hour) {
            count = Math.min(lines, MOST_LINES);
            holding = (1 << count) - 1;
            spread = false;
            for (int i = 0; i < count; i++) {
                put(hard, i, port.ropePulls(at(ship.rope, i)));
                put(bears, i, Math.max(0, port.ropeBears(at(ship.rope, i)) - at(ship.age, i)));
                put(spare, i, ship.fixedLaid(port, i) - ship.fixedLength(port, hour));
                tie(port, ship, i, at(ship.stone, i));
            }
        }

        void tie(Port port, Ship ship, int line, int toStone) {
            put(stone, line, toStone);
            int far = ship.wayTo(port, line, toStone);
            put(way, line, far);
            put(room, line, Math.abs(far) + at(spare, line));
            spread = false;
        }

        void slacken(int line) {
            put(room, line, at(room, line) + 1);
            spread = false;
        }

        /** A LINE, or 10 and a STONE, goes. */
        void drop(int what) {
            for (int i = 0; i < count; i++) {
                if (i == what || 10 + at(stone, i) == what) {
                    holding &= ~(1 << i);
                }
            }
            spread = false;
        }

        /** The ship comes to rest by the LINES that hold. */
        void settle(int wind, int stream) {
            if (!spread) {
                spreadPulls();
            }
            int spot = restingSpot(wind, stream);
            u = rankToU(spot / OFFS);
            v = spot % OFFS;
            along = at(alongAt, spot) + stream;
            off = wind - at(pullAt, spot);
            if (v == 0) {
                off = Math.max(0, off);
            }
            for (int i = 0; i < count; i++) {
                int stretch = Math.max(0, Math.abs(at(way, i) - u) + v - at(room, i));
                put(pulls, i, hasBit(holding, i) ? at(hard, i) * stretch : 0);
            }
        }

        private static int rankToU(int rank) {
            return rank % 2 == 0 ? rank / 2 : -(rank + 1) / 2;
        }

        private void spreadPulls() {
            Arrays.fill(alongAt, 0);
            Arrays.fill(pullAt, 0);
            for (int i = 0; i < count; i++) {
                for (int rank = 0; rank < RANKS && hasBit(holding, i); rank++) {
                    addPulls(i, rank);
                }
            }
            spread = true;
        }

        private void addPulls(int line, int rank) {
            int far = at(way, line) - rankToU(rank);
            int side = Integer.compare(far, 0);
            int slackest = Math.abs(far) - at(room, line);
            int step = at(hard, line);
            int from = Math.max(0, 1 - slackest);
            int pull = step * (slackest + from);
            for (int spot = rank * OFFS + from; spot < (rank + 1) * OFFS && spot < SPOTS; spot++) {
                pullAt[spot] += pull;
                alongAt[spot] += side * pull;
                pull += step;
            }
        }

        /** Spots are looked at as they are preferred, so that the first of like ones stays. */
        private int restingSpot(int wind, int stream) {
            int best = 0;
            int least = ABOVE_ALL;
            for (int rank = 0; rank < RANKS; rank++) {
                for (int spot = rank * OFFS; spot < (rank + 1) * OFFS && spot < SPOTS; spot++) {
                    int left = wind - pullAt[spot];
                    int sum = Math.abs(alongAt[spot] + stream);
                    if (left > 0 || spot != rank * OFFS) {
                        sum += Math.abs(left);
                    }
                    if (sum < least) {
                        least = sum;
                        best = spot;
                    }
                    // Farther off |OFF| would grow by all that the PULLS do, |ALONG| shrink by no more.
                    if (left <= 0) {
                        break;
                    }
                }
            }
            return best;
        }

        int allPulls() {
            int sum = 0;
            for (int i = 0; i < count; i++) {
                sum += at(pulls, i);
            }
            return sum;
        }

        /** The LINE, or 10 and the STONE, that goes first; NONE if nothing is OVER. */
        int mostOver(Port port) {
            int most = 0;
            int which = NONE;
            for (int i = 0; i < count; i++) {
                int over = at(pulls, i) - at(bears, i);
                if (over > most) {
                    most = over;
                    which = i;
                }
            }
            for (int s = 0; s < port.toldOf(STONE); s++) {
                int over = pullsTo(s) - port.stoneBears(s);
                if (over > most) {
                    most = over;
                    which = 10 + s;
                }
            }
            return which;
        }

        private int pullsTo(int toStone) {
            int sum = 0;
            for (int i = 0; i < count; i++) {
                if (at(stone, i) == toStone) {
                    sum += at(pulls, i);
                }
            }
            return sum;
        }

        int load(int line) {
            return 1000 * at(pulls, line) / Math.max(1, at(bears, line));
        }

        int greatestLoad() {
            int greatest = 0;
            for (int i = 0; i < count; i++) {
                greatest = Math.max(greatest, load(i));
            }
            return greatest;
        }
    }

    /** What wind does to a mooring: what goes, how much holds, and how it is best laid. */
    private static final class Gale {
        int times;
        final int[] gone = new int[MOST_LINES];
        int bestLoad;
        final int[] bestStones = new int[MOST_LINES];

        Gale() {
        }

        /** Each time at least one LINE goes, so that six times are enough. */
        void blow(Mooring mooring, Port port, int wind, int stream) {
            times = 0;
            for (int i = 0; i < MOST_LINES; i++) {
                mooring.settle(wind, stream);
                int worst = mooring.mostOver(port);
                if (worst == NONE) {
                    return;
                }
                put(gone, times, worst);
                times++;
                mooring.drop(worst);
            }
        }

        /** HELD; NONE is one less than the WIND 0 at which something goes. */
        int greatestWind(Mooring mooring, Port port, int stream) {
            for (int wind = 0; wind <= STRONGEST_WIND; wind++) {
                mooring.settle(wind, stream);
                if (mooring.mostOver(port) != NONE) {
                    return wind - 1;
                }
            }
            return STRONGEST_WIND;
        }

        /** Whether there is a BEST way; ways are tried by the first LINE's STONE, then the next one's. */
        boolean layBest(Mooring mooring, Port port, Ship ship, int wind, int stream) {
            bestLoad = ABOVE_ALL;
            int ways = 1;
            for (int i = 0; i < mooring.count; i++) {
                ways *= port.toldOf(STONE);
            }
            // No way is better than one with no load at all.
            for (int way = 0; way < ways && bestLoad > 0; way++) {
                tieWay(mooring, port, ship, way);
                mooring.settle(wind, stream);
                int load = mooring.greatestLoad();
                if (load < bestLoad && mooring.mostOver(port) == NONE) {
                    bestLoad = load;
                    System.arraycopy(mooring.stone, 0, bestStones, 0, MOST_LINES);
                }
            }
            return bestLoad < ABOVE_ALL;
        }

        private static void tieWay(Mooring mooring, Port port, Ship ship, int way) {
            int stones = Math.max(1, port.toldOf(STONE));
            int left = way;
            for (int i = mooring.count - 1; i >= 0; i--) {
                mooring.tie(port, ship, i, left % stones);
                left /= stones;
            }
        }
    }

    /** CALLS, how they are met by a ROW, and what is paid for that. */
    private static final class Calls {
        int count;
        int waited;
        int byGangs;
        int byTugs;
        int byBoth;
        final int[] begin = new int[MOST_CALLS];
        private final int[] minute = new int[MOST_CALLS];
        private final int[] men = new int[MOST_CALLS];
        private final int[] lasts = new int[MOST_CALLS];
        private final int[] wanted = new int[MOST_CALLS];
        private final int[] gangFree = new int[MOST_GANGS];
        // The minutes from which the TUGS are free, the least first.
        private final int[] tugFree = new int[MOST_TUGS];

        Calls() {
        }

        void add(int newMinute, int newMen, int newLasts, int newWanted) {
            put(minute, count, newMinute);
            put(men, count, newMen);
            put(lasts, count, newLasts);
            put(wanted, count, newWanted);
            count++;
        }

        private static int gangOf(int row, int call) {
            return (row >> (2 * call)) & 3;
        }

        boolean isLawful(Port port, int row) {
            if (!within(row, 0, (1 << (2 * count)) - 1)) {
                return false;
            }
            for (int c = 0; c < count; c++) {
                int gang = gangOf(row, c);
                if (gang >= port.toldOf(GANG) || port.men(gang) < at(men, c)) {
                    return false;
                }
                if (at(wanted, c) > port.tugs()) {
                    return false;
                }
            }
            return true;
        }

        /** A lawful ROW's CALLS, in their order. */
        void meet(Port port, int row) {
            waited = 0;
            byGangs = 0;
            byTugs = 0;
            byBoth = 0;
            Arrays.fill(gangFree, 0);
            Arrays.fill(tugFree, 0);
            for (int c = 0; c < count; c++) {
                meetOne(port, gangOf(row, c), c);
            }
        }

        private void meetOne(Port port, int gang, int c) {
            int gangs = at(gangFree, gang);
            int tugs = at(wanted, c) > 0 ? at(tugFree, at(wanted, c) - 1) : 0;
            int from = Math.max(at(minute, c), Math.max(gangs, tugs));
            int wait = from - at(minute, c);
            waited += wait;
            if (gangs > tugs) {
                byGangs += wait;
            } else if (tugs > gangs) {
                byTugs += wait;
            } else {
                byBoth += wait;
            }
            put(begin, c, from);
            put(gangFree, gang, from + at(lasts, c) + port.sleep(gang));
            takeTugs(at(wanted, c), from + at(lasts, c), port.tugs());
        }

        private void takeTugs(int taken, int until, int tugs) {
            for (int t = 0; t < taken; t++) {
                put(tugFree, t, until);
            }
            for (int t = 1; t < tugs; t++) {
                int free = at(tugFree, t);
                int to = t;
                while (to > 0 && at(tugFree, to - 1) > free) {
                    put(tugFree, to, at(tugFree, to - 1));
                    to--;
                }
                put(tugFree, to, free);
            }
        }

        int leastRow(Port port) {
            int best = NONE;
            int least = ABOVE_ALL;
            for (int row = 0; row < 1 << (2 * count); row++) {
                if (isLawful(port, row)) {
                    meet(port, row);
                    if (waited < least) {
                        least = waited;
                        best = row;
                    }
                }
            }
            return best;
        }

        /** PAY of the ROW that was met last. */
        int payOf(Port port, int row, int gang) {
            int sum = 0;
            for (int c = 0; c < count; c++) {
                if (gangOf(row, c) == gang) {
                    int from = at(begin, c);
                    int early = earlyMinutes(from + at(lasts, c)) - earlyMinutes(from);
                    sum += port.wage(0);
                    sum += port.wage(1) * ((from - at(minute, c) + 14) / 15);
                    sum += port.wage(2) * ((early + 59) / 60);
                }
            }
            return sum;
        }

        /** Of the minutes ahead of one, those in the first 360 of 1440. */
        private static int earlyMinutes(int until) {
            return until / 1440 * 360 + Math.min(until % 1440, 360);
        }
    }

    /** RINGS: whose TURN it was, and how a GANG's LUCK compares with chance. */
    private static final class Rings {
        int count;
        private final int[] home = new int[MOST_RINGS];
        private final int[] rung = new int[MOST_RINGS];
        private final long[] ways = new long[MOST_RINGS + 1];

        Rings() {
        }

        void add(int newHome, int gang) {
            put(home, count, newHome);
            put(rung, count, gang);
            count++;
        }

        /** Whose TURN it is behind the first so many RINGS. */
        int turnBehind(int first, int atHome) {
            int turn = NONE;
            int longest = MOST_RINGS;
            for (int gang = 0; gang < MOST_GANGS; gang++) {
                if (hasBit(atHome, gang)) {
                    int last = lastRing(first, gang);
                    if (last < longest) {
                        longest = last;
                        turn = gang;
                    }
                }
            }
            return turn;
        }

        private int lastRing(int first, int gang) {
            for (int i = first - 1; i >= 0; i--) {
                if (at(rung, i) == gang) {
                    return i;
                }
            }
            return NONE;
        }

        private boolean isTurn(int ring, int gang) {
            return turnBehind(ring, at(home, ring)) == gang;
        }

        int timesRung(int gang) {
            int times = 0;
            for (int i = 0; i < count; i++) {
                if (at(rung, i) == gang) {
                    times++;
                }
            }
            return times;
        }

        int luckOf(int gang) {
            int luck = 0;
            for (int i = 0; i < count; i++) {
                if (at(rung, i) == gang && !isTurn(i, gang)) {
                    luck++;
                }
            }
            return luck;
        }

        int chanceOf(int gang) {
            countWays(gang);
            int luck = luckOf(gang);
            long all = 0;
            long some = 0;
            for (int k = 0; k < ways.length; k++) {
                all += ways[k];
                if (k >= luck) {
                    some += ways[k];
                }
            }
            return all > 0 ? (int) (1000 * some / all) : NONE;
        }

        /** How many ways give each LUCK; at most 4 to the 20th in all. */
        private void countWays(int gang) {
            Arrays.fill(ways, 0);
            ways[0] = 1;
            for (int i = 0; i < count; i++) {
                int others = Integer.bitCount(at(home, i));
                int lucky = 0;
                if (hasBit(at(home, i), gang) && !isTurn(i, gang)) {
                    others--;
                    lucky = 1;
                }
                for (int k = ways.length - 1; k > 0; k--) {
                    ways[k] = ways[k] * others + ways[k - 1] * lucky;
                }
                ways[0] *= others;
            }
        }
    }

    /** An order of the numbers from 0 on, and the orders behind it. */
    private static final class Order {
        int count;
        final int[] row = new int[MOST_TASKS];

        Order() {
        }

        void begin(int numbers) {
            count = numbers;
            for (int i = 0; i < count; i++) {
                put(row, i, i);
            }
        }

        /** Whether there is an order behind this one; then it has come. */
        boolean next() {
            int i = count - 2;
            while (i >= 0 && at(row, i) > at(row, i + 1)) {
                i--;
            }
            if (i < 0) {
                return false;
            }
            int j = count - 1;
            while (j > i && at(row, j) < at(row, i)) {
                j--;
            }
            swap(i, j);
            for (int low = i + 1, high = count - 1; low < high; low++, high--) {
                swap(low, high);
            }
            return true;
        }

        private void swap(int i, int j) {
            int kept = at(row, i);
            put(row, i, at(row, j));
            put(row, j, kept);
        }
    }

    /** VISITS along the quay. */
    private static final class Berths {
        int count;
        final int[] length = new int[MOST_VISITS];
        final int[] draft = new int[MOST_VISITS];
        final int[] comes = new int[MOST_VISITS];
        final int[] stays = new int[MOST_VISITS];
        // Where and from when a VISIT is LAID; both NONE if it isn't.
        final int[] place = new int[MOST_VISITS];
        final int[] hour = new int[MOST_VISITS];
        int leastWaited;
        final int[] planned = new int[MOST_VISITS];
        private final int[] waiting = new int[MOST_VISITS];
        // The least DEPTH along each VISIT at the places 0, 10, 20, ..
        private final int[] shallowest = new int[MOST_VISITS * TENS];

        Berths() {
        }

        void add(Port port, int size, int time) {
            put(length, count, size / 100);
            put(draft, count, size % 100);
            put(comes, count, time / 100);
            put(stays, count, time % 100);
            putAt(count, NONE, NONE);
            for (int ten = 0; ten < TENS; ten++) {
                put(shallowest, count * TENS + ten, port.leastDepth(ten * 10, size / 100));
            }
            count++;
        }

        boolean hasVisit(int visit) {
            return within(visit, 0, count - 1);
        }

        boolean isLaid(int visit) {
            return at(hour, visit) != NONE;
        }

        void putAt(int visit, int newPlace, int newHour) {
            put(place, visit, newPlace);
            put(hour, visit, newHour);
        }

        /** 0 if a VISIT fits there and then. */
        int reasonAgainst(Port port, int visit, int atPlace, int from) {
            if (from < at(comes, visit)) {
                return 1;
            }
            if (!within(atPlace, 0, LAST_PLACE - at(length, visit)) || from > LAST_LAID_HOUR) {
                return 2;
            }
            int least = port.leastDepth(atPlace, at(length, visit));
            if (least + port.water(from) < at(draft, visit) + 1) {
                return 3;
            }
            if (least + port.water(from + at(stays, visit)) < at(draft, visit) + 1) {
                return 4;
            }
            int other = neighbour(visit, atPlace, from);
            return other == NONE ? 0 : 50 + other;
        }

        /** The least VISIT that is LAID too near by place and hours. */
        private int neighbour(int visit, int atPlace, int from) {
            int to = atPlace + at(length, visit);
            int until = from + at(stays, visit);
            for (int i = 0; i < count; i++) {
                if (i != visit && at(hour, i) != NONE
                    && from < at(hour, i) + at(stays, i) && at(hour, i) < until
                    && atPlace < at(place, i) + at(length, i) + BETWEEN_VISITS
                    && at(place, i) < to + BETWEEN_VISITS) {
                    return i;
                }
            }
            return NONE;
        }

        int hoursAground(Port port, int visit) {
            int least = port.leastDepth(at(place, visit), at(length, visit));
            int hours = 0;
            for (int i = 0; i < at(stays, visit); i++) {
                if (least + port.water(at(hour, visit) + i) < at(draft, visit)) {
                    hours++;
                }
            }
            return hours;
        }

        /** FIRST FIT of a VISIT that isn't LAID. */
        int earliest(Port port, int visit) {
            for (int from = at(comes, visit); from <= LAST_LAID_HOUR; from++) {
                int water = Math.min(port.water(from), port.water(from + at(stays, visit)));
                int fit = firstPlace(visit, from, at(draft, visit) + 1 - water);
                if (fit != NONE) {
                    return from * 1000 + fit;
                }
            }
            return NONE;
        }

        private int firstPlace(int visit, int from, int deep) {
            for (int ten = 0; ten < TENS && ten * 10 <= LAST_PLACE - at(length, visit); ten++) {
                if (at(shallowest, visit * TENS + ten) >= deep
                    && neighbour(visit, ten * 10, from) == NONE) {
                    return ten * 10;
                }
            }
            return NONE;
        }

        /** Whether there is a PLAN. */
        boolean planAll(Port port, Order order) {
            int many = 0;
            for (int i = 0; i < count; i++) {
                if (!isLaid(i)) {
                    put(waiting, many, i);
                    many++;
                }
            }
            leastWaited = ABOVE_ALL;
            order.begin(many);
            for (int tried = 0; tried < MOST_ORDERS; tried++) {
                tryOrder(port, order);
                if (!order.next()) {
                    break;
                }
            }
            return leastWaited < ABOVE_ALL;
        }

        /** Lays what isn't LAID in an order, keeps that if it is the best yet, and lifts it again. */
        private void tryOrder(Port port, Order order) {
            int waited = 0;
            for (int i = 0; i < order.count && waited < leastWaited; i++) {
                int visit = at(waiting, at(order.row, i));
                int fit = earliest(port, visit);
                if (fit == NONE) {
                    waited = ABOVE_ALL;
                } else {
                    waited += fit / 1000 - at(comes, visit);
                    putAt(visit, fit % 1000, fit / 1000);
                }
            }
            if (waited < leastWaited) {
                keepPlan(waited);
            }
            for (int i = 0; i < order.count; i++) {
                putAt(at(waiting, i), NONE, NONE);
            }
        }

        private void keepPlan(int waited) {
            leastWaited = waited;
            for (int i = 0; i < count; i++) {
                put(planned, i, at(hour, i) * 1000 + at(place, i));
            }
        }
    }

    /** A STORM's TASKS, and the order in which the least is LOST. */
    private static final class Night {
        int count;
        int leastLost;
        final int[] leastRow = new int[MOST_TASKS];
        int leastFirst;
        private final int[] minutes = new int[MOST_TASKS];
        private final int[] by = new int[MOST_TASKS];
        private final int[] worth = new int[MOST_TASKS];

        Night() {
        }

        void add(int newMinutes, int newBy, int newWorth) {
            put(minutes, count, newMinutes);
            put(by, count, newBy);
            put(worth, count, newWorth);
            count++;
        }

        void findLeast(int parties, Order order) {
            leastLost = ABOVE_ALL;
            order.begin(count);
            for (int tried = 0; tried < MOST_ORDERS; tried++) {
                divide(parties, order.row);
                if (!order.next()) {
                    break;
                }
            }
        }

        private void divide(int parties, int[] row) {
            for (int first = parties == 1 ? count : 0; first <= count; first++) {
                int lost = lostBy(row, 0, first) + lostBy(row, first, count);
                if (lost < leastLost) {
                    leastLost = lost;
                    leastFirst = first;
                    for (int i = 0; i < count; i++) {
                        put(leastRow, i, at(row, i));
                    }
                }
            }
        }

        /** What one PARTY loses that does this part of the row. */
        private int lostBy(int[] row, int from, int to) {
            int minute = 0;
            int lost = 0;
            for (int i = from; i < to; i++) {
                int t = at(row, i);
                minute += at(minutes, t);
                if (minute > at(by, t)) {
                    lost += at(worth, t);
                }
            }
            return lost;
        }
    }

    /** The LOG, and whether a LINE was too weak by it. */
    private static final class Log {
        int count;
        int greatest;
        int greatestRow;
        private final int[] hour = new int[MOST_ROWS];
        private final int[] wind = new int[MOST_ROWS];
        private final int[] stream = new int[MOST_ROWS];

        Log() {
        }

        void add(int newHour, int newWind, int newStream) {
            put(hour, count, newHour);
            put(wind, count, newWind);
            put(stream, count, newStream);
            count++;
        }

        void findGreatest(Mooring mooring, Port port, Ship ship, int line) {
            greatest = NONE;
            for (int i = 0; i < count; i++) {
                mooring.moor(port, ship, ship.lines, at(hour, i));
                mooring.settle(at(wind, i), at(stream, i));
                int load = mooring.load(line);
                if (load > greatest) {
                    greatest = load;
                    greatestRow = i;
                }
            }
        }

        /** 1 too much was asked, 0 the LINE itself, 2 open. */
        int verdict() {
            if (greatest > 1000) {
                return 1;
            }
            return greatest <= 500 ? 0 : 2;
        }
    }
}
