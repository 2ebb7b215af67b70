import java.io.IOException;
import java.lang.management.ManagementFactory;
import java.lang.reflect.Constructor;
import java.lang.reflect.Field;
import java.lang.reflect.Member;
import java.lang.reflect.Method;
import java.lang.reflect.Modifier;
import java.nio.file.Files;
import java.nio.file.Path;
import java.util.ArrayList;
import java.util.List;
import java.util.Set;
import java.util.TreeSet;
import java.util.regex.Matcher;
import java.util.regex.Pattern;

/**
 * The public face as the document has it, the rules of LANGUAGE.md that can be seen from outside or by
 * a word in the source, and the room: the dearest call, 512 times, and an object.
 */
public final class FaceTest {
    private static final String[] FACE = {
        "int feed 5", "boolean end 1", "int fault 0", "int port 0", "boolean ship 2", "int line 5", "boolean mend 3", "int letGo 0",
        "int of 2", "int rests 4", "int pull 4", "int goes 4", "int holds 3", "int held 2", "int moved 5", "int best 5", "int call 3",
        "int met 2", "int least 0", "int pay 2", "int ring 2", "int undo 0", "int turn 1", "int luck 2", "int depth 1", "int visit 2",
        "int fits 3", "boolean lay 3", "boolean lift 1", "int about 2", "int firstFit 1", "int plan 1", "int task 3", "int storm 2",
        "int weather 3", "int blame 2", "boolean image 1", "boolean back 1", "int count 1"};
    private static int wrong = 0;

    public static void main(String[] args) throws IOException, ReflectiveOperationException {
        face();
        insideClasses();
        source();
        room();
        System.out.println(wrong == 0 ? "the face, the rules and the room are as due" : wrong + " things are not as due");
        if (wrong != 0) System.exit(1);
    }

    private static void check(boolean right, String what) {
        if (!right) {
            wrong++;
            System.out.println(what);
        }
    }

    private static void face() throws ReflectiveOperationException {
        check(QuayRopes.class.getModifiers() == (Modifier.PUBLIC | Modifier.FINAL), "the class is not public and final");
        Set<String> due = new TreeSet<>(List.of(FACE));
        Set<String> got = new TreeSet<>();
        for (Method m : QuayRopes.class.getDeclaredMethods()) {
            if (Modifier.isPrivate(m.getModifiers())) continue;
            check(m.getModifiers() == Modifier.PUBLIC, m + " is not public alone");
            for (Class<?> p : m.getParameterTypes()) check(p == int.class, m + " has a parameter that is no int");
            got.add(m.getReturnType() + " " + m.getName() + " " + m.getParameterCount());
        }
        check(due.equals(got), "the methods are " + got);
        Constructor<?>[] made = QuayRopes.class.getDeclaredConstructors();
        check(made.length == 1 && made[0].getParameterCount() == 0 && Modifier.isPublic(made[0].getModifiers()), "the constructor");
        for (Field f : QuayRopes.class.getDeclaredFields()) {
            boolean open = f.getName().equals("NONE") || f.getName().equals("VOID");
            check(Modifier.isPrivate(f.getModifiers()) != open, f + " is open or hidden");
            check(!open || f.getModifiers() == (Modifier.PUBLIC | Modifier.STATIC | Modifier.FINAL), f + " is no constant");
        }
    }

    private static void insideClasses() {
        Class<?>[] inside = QuayRopes.class.getDeclaredClasses();
        check(inside.length <= 14, inside.length + " classes");
        List<Class<?>> all = new ArrayList<>(List.of(inside));
        all.add(QuayRopes.class);
        Set<String> open = new TreeSet<>();
        for (String f : FACE) open.add(f.split(" ")[1]);
        for (Class<?> c : all) {
            check(c == QuayRopes.class || Modifier.isStatic(c.getModifiers()) && !Modifier.isPublic(c.getModifiers()), c + " is not static and hidden");
            int own = 0;
            for (Field f : c.getDeclaredFields()) {
                check(!Modifier.isStatic(f.getModifiers()) || Modifier.isFinal(f.getModifiers()), f + " is state of no object");
                if (!Modifier.isStatic(f.getModifiers())) own++;
            }
            check(own <= 24, c + " has " + own + " fields");
            for (Method m : c.getDeclaredMethods()) {
                check(m.getParameterCount() <= 7, m + " has too many parameters");
                check(c == QuayRopes.class && Modifier.isPublic(m.getModifiers()) || !open.contains(m.getName()), m + " bears a public name");
                check(!Set.of("equals", "hashCode", "toString").contains(m.getName()), m.toString());
            }
        }
    }

    /** Words that the program must not have, outside of comments, and methods that are too long. */
    private static void source() throws IOException {
        Path path = Path.of("src/main/java/QuayRopes.java");
        String source = Files.readString(path);
        for (char c : source.toCharArray()) check(c < 127, "the source has the sign " + (int) c);
        String code = source.replaceAll("(?s)/\\*.*?\\*/", "").replaceAll("//[^\n]*", "");
        code = code.replaceAll("(?s)\\b(case\\b[^:;{}]*?|default\\s*)->", "");
        String[] banned = {"\\b(throw|throws|try|catch|finally|synchronized|assert|volatile|transient|native|Object|System\\.(?!arraycopy)\\w+|Exact)\\b",
            "\\w+Exact\\b", "->", "::", "@", "\\+ *\"", "\" *\\+", "static *\\{", "\\bpackage\\b", "\\bwhile *\\( *true", "for *\\( *;"};
        for (String b : banned) {
            Matcher m = Pattern.compile(b).matcher(code);
            while (m.find()) check(false, "the source has " + m.group());
        }
        Matcher imports = Pattern.compile("import ([^;]*);").matcher(code);
        while (imports.find()) check(Set.of("java.util.Arrays", "java.util.ArrayList", "java.util.List", "java.util.Iterator").contains(imports.group(1)), "the source imports " + imports.group(1));
        int begin = -1;
        String[] lines = source.split("\n");
        for (int i = 0; i < lines.length; i++) {
            if (lines[i].matches("    (    )?[a-z][^=;]*\\) \\{")) begin = i;
            if (lines[i].matches("    (    )?\\}") && begin >= 0) {
                check(i - begin < 70, "a method of " + (i - begin) + " lines from line " + (begin + 1) + " on");
                begin = -1;
            }
        }
    }

    private static long made() {
        return ((com.sun.management.ThreadMXBean) ManagementFactory.getThreadMXBean()).getThreadAllocatedBytes(Thread.currentThread().getId());
    }

    private interface Asked {
        long of(QuayRopes x);
    }

    /** 7.3 million fields and elements for all calls of a run: an object, and its dearest call 512 times. */
    private static void room() {
        Asked[] calls = {x -> x.fault(), x -> x.held(3, 4), x -> x.best(3, 40, -5, 3, -1), x -> x.moved(3, 40, -5, 3, 2), x -> x.goes(3, 400, -5, -1),
            x -> x.blame(3, 0), x -> x.least(), x -> x.pay(0, 0), x -> x.luck(3, 2), x -> x.plan(-1), x -> x.storm(2, -1), x -> x.firstFit(3),
            x -> x.image(1) ? 1 : 0, x -> x.back(1) ? 1 : 0, x -> x.ship(40, 12) ? 1 : 0, x -> x.line(1, 2, 0, 3, 4), x -> x.call(1, 1, 10), x -> x.ring(15, 3),
            x -> x.visit(9020, 110), x -> x.task(1, 1, 1), x -> x.weather(1, 1, 1), x -> x.feed(1, 1, 1, 1, 1), x -> x.end(209) ? 1 : 0, x -> x.port(), x -> x.count(7)};
        long sum = full().count(4);
        long before = made();
        sum += new QuayRopes().count(4);
        long object = made() - before;
        long dearest = 0;
        for (int round = 0; round < 3; round++) {
            for (int i = 0; i < calls.length; i++) {
                QuayRopes x = full();
                before = made();
                sum += calls[i].of(x);
                // the first round is Java's own, too
                if (round > 0) dearest = Math.max(dearest, made() - before);
            }
        }
        // an element has four bytes, most of them
        check(object + 512 * dearest < 4 * 7300000, "an object takes " + object + " bytes, its dearest call " + dearest + " (" + sum + ")");
    }

    private static QuayRopes full() {
        String text = "stone 50 999;stone 80 999;stone 120 50;rope 99 3;rope 30 9;tide 0 2 4 6 4 2;gang 9 60;gang 9 0;gang 9 9;gang 9 9;tugs 3;pay 1 2 3;deep 0 200 30;";
        QuayRopes x = Due.port(text);
        x.ship(40, 12);
        for (int i = 0; i < 5; i++) {
            x.line(i, i * 10, i % 3, i % 2 * 100 + i, i);
            x.call(i * 10, 5, 301);
            x.task(10 + i, 20 + i, 5);
            if (i < 4) x.visit(9020, 110 + i);
        }
        for (int i = 0; i < 19; i++) x.ring(15, i % 4);
        for (int i = 0; i < 11; i++) x.weather(i, i * 20, i);
        x.image(1);
        Due.feed(x, text);
        return x;
    }
}
