import java.io.IOException;
import java.lang.management.ManagementFactory;
import java.lang.reflect.Constructor;
import java.lang.reflect.Field;
import java.lang.reflect.Member;
import java.lang.reflect.Method;
import java.lang.reflect.Modifier;
import java.nio.file.Files;
import java.nio.file.Path;
import java.util.ArrayList;
import java.util.List;
import java.util.Set;
import java.util.TreeSet;
import java.util.regex.Matcher;
import java.util.regex.Pattern;

/**
 * The public face as the document has it, the rules of LANGUAGE.md that can be seen from outside or by
 * a word in the source, and the room: no call makes anything, and an object is small.
 */
public final class FaceTest {
    private static final String[] FACE = {
        "int feed 5", "boolean end 1", "int fault 0", "int port 0", "boolean ship 2", "int line 5", "boolean mend 3", "int letGo 0",
        "int of 2", "int rests 4", "int pull 4", "int goes 4", "int holds 3", "int held 2", "int moved 5", "int best 5", "int call 3",
        "int met 2", "int least 0", "int pay 2", "int ring 2", "int undo 0", "int turn 1", "int luck 2", "int depth 1", "int visit 2",
        "int fits 3", "boolean lay 3", "boolean lift 1", "int about 2", "int firstFit 1", "int plan 1", "int task 3", "int storm 2",
        "int weather 3", "int blame 2", "boolean image 1", "boolean back 1", "int count 1"};
    private static int wrong = 0;

    public static void main(String[] args) throws IOException, ReflectiveOperationException {
        face();
        insideClasses();
        source();
        room();
        System.out.println(wrong == 0 ? "the face, the rules and the room are as due" : wrong + " things are not as due");
        if (wrong != 0) System.exit(1);
    }

    private static void check(boolean right, String what) {
        if (!right) {
            wrong++;
            System.out.println(what);
        }
    }

    private static void face() throws ReflectiveOperationException {
        check(QuayRopes.class.getModifiers() == (Modifier.PUBLIC | Modifier.FINAL), "the class is not public and final");
        Set<String> due = new TreeSet<>(List.of(FACE));
        Set<String> got = new TreeSet<>();
        for (Method m : QuayRopes.class.getDeclaredMethods()) {
            if (Modifier.isPrivate(m.getModifiers())) continue;
            check(m.getModifiers() == Modifier.PUBLIC, m + " is not public alone");
            for (Class<?> p : m.getParameterTypes()) check(p == int.class, m + " has a parameter that is no int");
            got.add(m.getReturnType() + " " + m.getName() + " " + m.getParameterCount());
        }
        check(due.equals(got), "the methods are " + got);
        Constructor<?>[] made = QuayRopes.class.getDeclaredConstructors();
        check(made.length == 1 && made[0].getParameterCount() == 0 && Modifier.isPublic(made[0].getModifiers()), "the constructor");
        for (Field f : QuayRopes.class.getDeclaredFields()) {
            boolean open = f.getName().equals("NONE") || f.getName().equals("VOID");
            check(Modifier.isPrivate(f.getModifiers()) != open, f + " is open or hidden");
            check(!open || f.getModifiers() == (Modifier.PUBLIC | Modifier.STATIC | Modifier.FINAL), f + " is no constant");
        }
    }

    private static void insideClasses() {
        Class<?>[] inside = QuayRopes.class.getDeclaredClasses();
        check(inside.length <= 12, inside.length + " classes");
        List<Class<?>> all = new ArrayList<>(List.of(inside));
        all.add(QuayRopes.class);
        Set<String> open = new TreeSet<>();
        for (String f : FACE) open.add(f.split(" ")[1]);
        for (Class<?> c : all) {
            check(c == QuayRopes.class || Modifier.isStatic(c.getModifiers()) && !Modifier.isPublic(c.getModifiers()), c + " is not static and hidden");
            int own = 0;
            for (Field f : c.getDeclaredFields()) {
                check(!Modifier.isStatic(f.getModifiers()) || Modifier.isFinal(f.getModifiers()), f + " is state of no object");
                if (!Modifier.isStatic(f.getModifiers())) own++;
            }
            check(own <= 20, c + " has " + own + " fields");
            for (Method m : c.getDeclaredMethods()) {
                check(m.getParameterCount() <= 7, m + " has too many parameters");
                check(c == QuayRopes.class && Modifier.isPublic(m.getModifiers()) || !open.contains(m.getName()), m + " bears a public name");
                check(!Set.of("equals", "hashCode", "toString").contains(m.getName()), m.toString());
            }
        }
    }

    /** Words that the program must not have, outside of comments, and methods that are too long. */
    private static void source() throws IOException {
        Path path = Path.of("src/main/java/QuayRopes.java");
        String source = Files.readString(path);
        for (char c : source.toCharArray()) check(c < 127, "the source has the sign " + (int) c);
        String code = source.replaceAll("(?s)/\\*.*?\\*/", "").replaceAll("//[^\n]*", "");
        String[] banned = {"\\b(throw|throws|try|catch|finally|synchronized|assert|volatile|transient|native|instanceof|double|float|Object|System\\.(?!arraycopy)\\w+|Exact)\\b",
            "\\w+Exact\\b", "->", "::", "@", "\\+ *\"", "\" *\\+", "static *\\{", "\\bpackage\\b", "\\bwhile *\\( *true", "for *\\( *;"};
        for (String b : banned) {
            Matcher m = Pattern.compile(b).matcher(code);
            while (m.find()) check(false, "the source has " + m.group());
        }
        Matcher imports = Pattern.compile("import ([^;]*);").matcher(code);
        while (imports.find()) check(Set.of("java.util.Arrays").contains(imports.group(1)), "the source imports " + imports.group(1));
        int begin = -1;
        String[] lines = source.split("\n");
        for (int i = 0; i < lines.length; i++) {
            if (lines[i].matches("    (    )?[a-z][^=;]*\\) \\{")) begin = i;
            if (lines[i].matches("    (    )?\\}") && begin >= 0) {
                check(i - begin < 60, "a method of " + (i - begin) + " lines from line " + (begin + 1) + " on");
                begin = -1;
            }
        }
    }

    private static long made() {
        return ((com.sun.management.ThreadMXBean) ManagementFactory.getThreadMXBean()).getThreadAllocatedBytes(Thread.currentThread().getId());
    }

    /** 7.3 million fields and elements for all calls of a run: 512 calls that each make an object take half of them. */
    private static void room() {
        String text = "stone 50 999;stone 80 999;stone 120 50;rope 99 3;rope 30 9;tide 0 2 4 6 4 2;gang 9 60;gang 9 0;gang 9 9;gang 9 9;tugs 3;pay 1 2 3;deep 0 200 30;";
        long sum = 0;
        made();
        long before = made();
        QuayRopes x = new QuayRopes();
        long object = made() - before;
        check(object < 7168 * 4, "an object takes " + object + " bytes");
        int[] parts = new int[200];
        for (int i = 0; i < text.length(); i += 4) parts[i / 4] = Due.four(text, i);
        before = made();
        for (int round = 0; round < 20; round++) {
            for (int i = 0; i < text.length(); i += 20) sum += x.feed(parts[i / 4], parts[i / 4 + 1], parts[i / 4 + 2], parts[i / 4 + 3], parts[i / 4 + 4]);
            x.end(text.length());
            sum += x.fault() + x.port();
            x.ship(40, 12);
            for (int i = 0; i < 6; i++) sum += x.line(i, i * 10, i % 3, i % 2 * 100 + i, i);
            for (int i = 0; i < 6; i++) sum += x.call(i * 10, 5, 301) + x.task(10 + i, 20 + i, 5);
            for (int i = 0; i < 5; i++) sum += x.visit(9020, 110 + i);
            for (int i = 0; i < 20; i++) sum += x.ring(15, i % 4);
            for (int i = 0; i < 12; i++) sum += x.weather(i, i * 20, i);
            x.image(1);
            x.back(1);
            sum += x.held(3, 4) + x.best(3, 40, -5, 3, -1) + x.moved(3, 40, -5, 3, 2) + x.goes(3, 400, -5, -1) + x.blame(3, 0);
            sum += x.least() + x.pay(0, 0) + x.luck(3, 2) + x.plan(-1) + x.storm(2, -1) + x.firstFit(3) + x.count(7);
        }
        long calls = made() - before;
        check(calls < 4096, "calls made " + calls + " bytes (" + sum + ")");
    }
}
