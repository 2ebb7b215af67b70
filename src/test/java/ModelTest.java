import java.lang.reflect.Method;
import java.nio.charset.StandardCharsets;
import java.util.ArrayList;
import java.util.Arrays;
import java.util.List;

/**
 * Holds the program against Model in many made-up runs of calls; the same ones each time. Arguments
 * of the command line: how many runs (150 without), and the first one's number.
 */
public final class ModelTest {
    private static final String[] CALLS = {
        // a call's name, how often it is drawn, and from where to where its arguments commonly are
        "ship 2 0 199 0 30", "line 16 0 99 0 80 0 7 0 399 0 20", "mend 3 0 5 0 99 0 20", "letGo 2",
        "of 3 0 5 0 5", "rests 8 0 99 0 999 -99 99 0 3", "pull 8 0 99 0 999 -99 99 -1 5",
        "goes 10 0 99 0 999 -99 99 -1 5", "holds 5 0 99 0 999 -99 99", "held 2 0 99 -99 99",
        "moved 6 0 99 0 999 -99 99 0 5 -20 20", "best 4 0 99 0 999 -99 99 1 3 -1 2",
        "call 10 0 999 1 20 10 2006", "met 6 0 4095 0 15", "least 3", "pay 4 0 4095 0 3",
        "ring 12 1 15 0 3", "undo 1", "turn 4 1 15", "luck 6 0 3 0 2",
        "depth 2 0 200", "visit 10 1001 15040 1 9948", "fits 10 0 4 0 190 0 199", "lay 6 0 4 0 190 0 199",
        "lift 2 0 4", "about 6 0 4 0 6", "firstFit 4 0 4", "plan 4 -1 4",
        "task 8 1 200 0 999 1 99", "storm 4 1 2 -1 5", "weather 6 0 99 0 999 -99 99",
        "blame 6 0 5 0 2", "image 3 0 2", "back 3 0 2", "count 3 0 11"};

    // The same from so narrow a space that much is alike, and what goes by 'of like ones' decides.
    private static final String[] ALIKE = {
        "ship 2 38 42 0 2", "line 20 0 7 0 12 0 3 0 2 0 2", "mend 3 0 5 0 7 0 2", "letGo 1",
        "rests 8 0 7 0 40 -6 6 0 3", "pull 4 0 7 0 40 -6 6 -1 5", "goes 14 0 7 0 70 -6 6 -1 3",
        "holds 8 0 7 0 70 -6 6", "held 2 0 7 -6 6", "moved 8 0 7 0 30 -6 6 0 3 -2 2", "best 10 0 7 0 30 -6 6 1 3 -1 2",
        "call 8 0 3 1 4 1 3", "met 6 0 255 0 15", "least 6", "pay 4 0 255 0 3", "ring 10 1 15 0 3", "turn 4 1 15",
        "luck 4 0 3 1 2", "visit 8 1 4 0 3", "fits 8 0 4 0 190 0 9", "lay 6 0 4 0 19 0 9", "lift 3 0 4",
        "about 2 0 4 4 6", "firstFit 6 0 4", "plan 12 -1 4", "task 8 1 3 1 6 1 3", "storm 12 1 2 -1 5",
        "weather 6 0 7 0 40 -6 6", "blame 8 0 5 0 2", "image 1 0 2", "back 1 0 2"};

    private final QuayRopes program = new QuayRopes();
    private final Model model = new Model();
    private final List<String> made = new ArrayList<>();
    private final int stones;
    private final int ropes;
    private final int seldomOdd;
    private final boolean alike;
    private long state;

    private ModelTest(int run) {
        state = 88172645463325252L + 7919L * run;
        for (int i = 0; i < 9; i++) draw();
        stones = 1 + among(8);
        ropes = 1 + among(4);
        seldomOdd = among(6) == 0 ? 4 : 80;
        alike = among(3) == 0;
    }

    public static void main(String[] args) throws ReflectiveOperationException {
        int runs = args.length > 0 ? Integer.parseInt(args[0]) : 150;
        int first = args.length > 1 ? Integer.parseInt(args[1]) : 0;
        for (int run = first; run < first + runs; run++) {
            if (!new ModelTest(run).agrees()) {
                System.out.println("in run " + run);
                System.exit(1);
            }
        }
        System.out.println(runs + " runs of calls are answered as by the model");
    }

    private long draw() {
        state ^= state << 13;
        state ^= state >>> 7;
        state ^= state << 17;
        return state >>> 1;
    }

    private int among(int n) {
        return (int) (draw() % n);
    }

    private int between(int low, int high) {
        return low + among(high - low + 1);
    }

    private boolean agrees() throws ReflectiveOperationException {
        for (int calls = 0; calls < 30; calls++) if (!agreesOnOne()) return false;
        for (int ports = 0; ports < 3; ports++) {
            for (int i = among(3); i > 0; i--) if (!tellPort(true)) return false;
            if (!tellPort(false)) return false;
            if (!(alike ? same("ship", between(38, 42), between(0, 2)) : same("ship", between(0, 160), between(0, 30)))) return false;
            for (int calls = 0; calls < 110; calls++) if (!agreesOnOne()) return false;
        }
        return tellPort(true) && same("count", 4) && same("count", 0) && same("back", 0);
    }

    private boolean agreesOnOne() throws ReflectiveOperationException {
        String[] call = drawCall();
        int[] args = new int[(call.length - 2) / 2];
        for (int i = 0; i < args.length; i++) {
            args[i] = argument(Integer.parseInt(call[2 + 2 * i]), Integer.parseInt(call[3 + 2 * i]));
        }
        if (alike) return same(call[0], rounded(call[0], args));
        // what is asked of a mooring is asked in weak winds, too
        if (call[0].matches("rests|pull|goes|holds|moved|best|weather") && among(2) == 0) args[1] %= 60;
        if (call[0].equals("line") && among(4) > 0) {
            args[2] = between(0, stones - 1);
            args[3] = between(0, ropes * 100 - 1);
        }
        if (call[0].equals("call") && among(4) > 0) {
            args[0] /= 4;
            args[1] = between(1, 8);
            args[2] = between(1, 60) * 10 + between(0, among(2) * 2);
        }
        if (call[0].equals("moved") && among(4) > 0) args[4] = between(-3, 3);
        if (call[0].equals("visit") && among(4) > 0) {
            args[0] = between(10, 110) * 100 + between(1, 18);
            args[1] = between(0, 30) * 100 + between(1, 48);
        }
        if (call[0].equals("lay") && among(2) == 0) args[2] = between(0, 60);
        if (call[0].equals("task") && among(4) > 0) args[1] = between(0, 500);
        if (call[0].equals("met") || call[0].equals("pay")) {
            if (among(3) == 0) args[0] = model.least();
            else if (among(2) == 0) args[0] &= (1 << 2 * model.count(5)) - 1;
        }
        if (call[0].equals("lift") && among(3) > 0) return true;
        if (call[0].equals("ship") && among(3) > 0) return true;
        return same(call[0], args);
    }

    /** Arguments of ALIKE as the call has them: few minutes, lengths and hours. */
    private int[] rounded(String call, int[] args) {
        if (call.equals("line")) args[3] = args[3] * 100 + among(3);
        if (call.equals("call")) {
            args[0] *= 15;
            args[2] = args[2] * 300 + among(3);
        }
        if (call.equals("visit")) {
            args[0] = args[0] * 2000 + between(2, 7);
            args[1] = args[1] * 100 + between(1, 3) * 4;
        }
        if (call.equals("met") || call.equals("pay")) args[0] = among(2) == 0 ? model.least() : args[0] & (1 << 2 * model.count(5)) - 1;
        if (call.equals("met") && among(2) == 0) args[1] &= 3;
        if (call.equals("lay")) args[1] *= 10;
        if (call.equals("task")) {
            args[0] *= 10;
            args[1] *= 10;
        }
        return args;
    }

    private String[] drawCall() {
        String[] calls = alike ? ALIKE : CALLS;
        int sum = 0;
        for (String c : calls) sum += Integer.parseInt(c.split(" ")[1]);
        int drawn = among(sum);
        for (String c : calls) {
            drawn -= Integer.parseInt(c.split(" ")[1]);
            if (drawn < 0) return c.split(" ");
        }
        throw new IllegalStateException();
    }

    private int argument(int low, int high) {
        if (among(seldomOdd) > 0) return between(low, high);
        int[] odd = {low - 1, high + 1, low, high, -1, Integer.MIN_VALUE, Integer.MAX_VALUE, -50, -100, 1000, (int) draw()};
        return odd[among(odd.length)];
    }

    /** Text that mostly is a PORT's; 'hurt' has a byte or a token in it changed. */
    private boolean tellPort(boolean hurt) throws ReflectiveOperationException {
        byte[] text = (alike ? alikeText() : portText()).getBytes(StandardCharsets.ISO_8859_1);
        if (hurt) {
            for (int i = among(4); i > 0; i--) text[among(text.length)] = (byte) " ;09azA\n-stonerope\0\u00ff".charAt(among(20));
        }
        if (!same("end", 0)) return false;
        for (int i = 0; i < text.length; i += 20) {
            int[] five = new int[5];
            byte[] part = Arrays.copyOf(Arrays.copyOfRange(text, i, Math.min(i + 20, text.length)), 20);
            for (int b = 0; b < 20; b++) five[b / 4] |= (part[b] & 255) << 24 - b % 4 * 8;
            if (!same("feed", five)) return false;
        }
        int length = text.length - (hurt && among(4) == 0 ? among(Math.min(30, text.length)) : 0);
        return same("end", length) && same("fault") && same("count", 7) && same("port") && same("count", 7)
            && same("count", 0) && same("count", 8);
    }

    private String alikeText() {
        StringBuilder text = new StringBuilder("tide 0 1 1 0 2 1;tugs ").append(among(4)).append(";pay 3 2 1;");
        for (int i = 0; i < 4; i++) {
            text.append("stone ").append(36 + 5 * i + among(5)).append(' ').append(between(2, 5) * 5).append(";rope ").append(between(1, 4) * 3).append(' ');
            text.append(between(1, 2)).append(";gang ").append(between(3, 5)).append(' ').append(among(3) * 15).append(';');
        }
        return text.append("deep 0 200 ").append(between(7, 9)).append(";deep 60 90 ").append(between(2, 9)).append(";deep 90 140 7;").toString();
    }

    private String portText() {
        List<String> parts = new ArrayList<>();
        List<Integer> places = new ArrayList<>();
        for (int i = 0; i < stones; i++) {
            int place = between(0, 199);
            if (places.contains(place)) continue;
            places.add(place);
            parts.add("stone " + place + " " + (among(3) == 0 ? between(1, 999) : between(1, 150)));
        }
        for (int i = 0; i < ropes; i++) parts.add("rope " + (among(2) == 0 ? between(1, 999) : between(30, 150)) + " " + between(1, 20));
        for (int i = among(5); i > 0; i--) {
            int from = between(0, 150);
            if (i == 1) from = 0;
            parts.add("deep " + from + " " + (among(2) == 0 ? 200 : between(from + 1, 200)) + " " + between(5, 25));
        }
        if (among(5) > 0) parts.add("tide " + among(10) + " " + among(10) + " " + among(10) + " " + among(10) + " " + among(10) + " " + among(10));
        for (int i = among(5); i > 0; i--) parts.add("gang " + between(among(2) * 10 + 3, 20) + " " + (among(2) == 0 ? 0 : between(0, 600)));
        if (among(4) > 0) parts.add("tugs " + among(7));
        if (among(4) > 0) parts.add("pay " + among(100) + " " + among(100) + " " + among(100));
        StringBuilder text = new StringBuilder();
        while (!parts.isEmpty()) {
            String part = parts.remove(among(parts.size()));
            if (text.length() + part.length() > 495) break;
            text.append(part).append(";  \n".charAt(0)).append(among(3) == 0 ? "\n" : among(2) == 0 ? " " : "");
        }
        return text.toString();
    }

    private boolean same(String name, int... args) throws ReflectiveOperationException {
        // what an object answers behind that is free
        if (made.size() == 512) return true;
        Object[] given = new Object[args.length];
        Class<?>[] types = new Class<?>[args.length];
        for (int i = 0; i < args.length; i++) {
            given[i] = args[i];
            types[i] = int.class;
        }
        made.add(name + Arrays.toString(args));
        Method asked = QuayRopes.class.getMethod(name, types);
        Method due = Model.class.getDeclaredMethod(name, types);
        Object got = asked.invoke(program, given);
        Object want = due.invoke(model, given);
        if (got.equals(want)) return true;
        for (String m : made) System.out.println(m);
        System.out.println("answered " + got + ", due is " + want);
        return false;
    }
}
