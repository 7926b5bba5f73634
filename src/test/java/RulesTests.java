import java.io.IOException;
import java.lang.management.ManagementFactory;
import java.lang.reflect.Constructor;
import java.lang.reflect.Field;
import java.lang.reflect.Method;
import java.lang.reflect.Modifier;
import java.nio.charset.StandardCharsets;
import java.nio.file.Files;
import java.nio.file.Path;
import java.util.Arrays;
import java.util.List;
import java.util.TreeSet;

/** What can be seen of LANGUAGE.md in the source and in the compiled class, and the room that a run takes. */
public final class RulesTests {
    static final String[] FACE = {
        "back()", "behind(int,int,int,int)", "birth(int)", "carriers(int)", "closes(int,int)", "count(int,int)",
        "course(int,int,int,int)", "death(int)", "drop(int)", "end(int)", "family()", "fault(int)",
        "feed(int,int,int,int,int)", "firstBad()", "gift()", "good(int)", "image()", "lates(int)", "limit(int)",
        "lowered(int)", "member(int,int)", "most(int)", "pass(int)", "period(int)", "person(int,int)", "rule(int)",
        "share(int,int,int)", "size(int)", "soonest(int,int,int)", "state(int)", "status(int)", "storied(int)", "story()",
        "storyState(int)", "storyVests(int,int)", "told(int,int)", "undo()", "vests(int,int)", "ways(int)",
        "witness(int)", "worst(int,int)", "written(int,int)"};
    static int wrong;

    static void check(boolean right, String what) {
        if (!right) {
            wrong++;
            System.out.println("not kept: " + what);
        }
    }

    static String signature(Method m) {
        StringBuilder b = new StringBuilder(m.getName()).append('(');
        for (Class<?> c : m.getParameterTypes()) {
            b.append(b.charAt(b.length() - 1) == '(' ? "" : ",").append(c.getName());
        }
        return b.append(')').toString();
    }

    static void face() {
        TreeSet<String> names = new TreeSet<>();
        TreeSet<String> open = new TreeSet<>();
        for (Method m : LaterLives.class.getDeclaredMethods()) {
            if (Modifier.isPublic(m.getModifiers())) {
                open.add(signature(m));
                names.add(m.getName());
                check(m.getReturnType() == (m.getName().equals("end") ? boolean.class : int.class), "type of " + m);
                check(!Modifier.isStatic(m.getModifiers()), "an object's: " + m);
            } else {
                check(Modifier.isPrivate(m.getModifiers()), "private: " + m);
            }
        }
        check(open.equals(new TreeSet<>(List.of(FACE))), "the face: " + open);
        check(Modifier.isFinal(LaterLives.class.getModifiers()), "a final class");
        check(LaterLives.class.getDeclaredConstructors().length == 1, "one constructor");
        TreeSet<String> constants = new TreeSet<>();
        for (Field f : LaterLives.class.getDeclaredFields()) {
            if (!Modifier.isPrivate(f.getModifiers())) {
                constants.add(f.getName());
            }
        }
        check(constants.toString().equals("[HIDDEN, NONE]"), "no other field: " + constants);
        for (Class<?> c : LaterLives.class.getDeclaredClasses()) {
            check(Modifier.isStatic(c.getModifiers()) && !Modifier.isPublic(c.getModifiers()), "hidden and static: " + c);
            for (Method m : c.getDeclaredMethods()) {
                check(!names.contains(m.getName()), "a name of the face: " + m);
            }
        }
    }

    static void sizes() {
        check(LaterLives.class.getDeclaredClasses().length + 1 <= 12, "twelve classes");
        classSizes(LaterLives.class);
        for (Class<?> c : LaterLives.class.getDeclaredClasses()) {
            classSizes(c);
        }
    }

    static void classSizes(Class<?> c) {
        int fields = 0;
        for (Field f : c.getDeclaredFields()) {
            boolean constant = Modifier.isStatic(f.getModifiers());
            fields += constant ? 0 : 1;
            check(!constant || Modifier.isFinal(f.getModifiers()) && f.getType().isPrimitive(), "a constant: " + f);
        }
        check(fields <= 20, "twenty fields: " + c);
        for (Method m : c.getDeclaredMethods()) {
            check(m.getParameterCount() <= 7, "seven parameters: " + m);
        }
        for (Constructor<?> k : c.getDeclaredConstructors()) {
            check(k.getParameterCount() <= 7, "seven parameters: " + k);
        }
    }

    static void source() throws IOException {
        String text = Files.readString(Path.of("src/main/java/LaterLives.java"), StandardCharsets.UTF_8);
        check(text.chars().allMatch(c -> c == '\n' || c >= 32 && c < 127), "plain signs");
        String code = text.replaceAll("(?s)/\\*.*?\\*/", "").replaceAll("//[^\n]*", "");
        for (String no : new String[] {"->", "::", "synchronized", "assert ", "finally", "catch", "package ", "instanceof",
            "native", "transient", "volatile", "System.", "Thread", "Object ", "Iterator", "\" +", "+ \"", ".equals("}) {
            check(!code.contains(no), "without " + no);
        }
        String imports = Arrays.toString(code.lines().filter(l -> l.startsWith("import")).toArray());
        check(imports.equals("[import java.util.Arrays;, import java.util.NoSuchElementException;]"), imports);
        check(code.split("throw new ", -1).length == 2, "one throw");
        int begin = 0;
        String[] lines = text.split("\n");
        for (int i = 0; i < lines.length; i++) {
            check(lines[i].length() <= 120, "a short line " + (i + 1));
            if (lines[i].matches("( {4}| {8})[a-z].*[(].*[)].*[{]")) {
                begin = i;
            }
            if (lines[i].matches("( {4}| {8})[}]")) {
                check(i - begin <= 60 || lines[i].startsWith("    }") && !lines[i].startsWith("     "),
                    "a short method at line " + (begin + 1));
            }
        }
    }

    static LaterLives grown() {
        LaterLives x = PromiseTests.made("a 90; b 50 of a; c 51 of a; d 52 of a; e 20 of b; f 21 of b; g 22 of c; h 23 of d");
        for (int i = 0; i < 8; i++) {
            PromiseTests.gift(x, "to grandchildren a when years 90 or years 91" + " and a reaches 99 or years 92".repeat(7));
        }
        x.pass(30);
        for (int i = 0; i < 16; i++) {
            x.birth(4);
        }
        return x;
    }

    /** Bytes made by a run; 4 for a number, and more than 8 for an object. */
    static long room(int which) {
        com.sun.management.ThreadMXBean bean = (com.sun.management.ThreadMXBean) ManagementFactory.getThreadMXBean();
        LaterLives warm = grown();
        dear(warm, which);
        PromiseTests.tell(warm, "to a when born");
        long before = bean.getThreadAllocatedBytes(Thread.currentThread().getId());
        LaterLives x = grown();
        for (int i = 0; i < 420; i++) {
            dear(x, which);
        }
        return bean.getThreadAllocatedBytes(Thread.currentThread().getId()) - before;
    }

    static void dear(LaterLives x, int which) {
        switch (which) {
            case 0: x.lates(0); break;
            case 1: x.lowered(0); break;
            case 2: x.most(3); break;
            case 3: x.most(4); break;
            case 4: x.ways(0); break;
            case 5: x.carriers(0); break;
            case 6: x.period(5); break;
            case 7: x.fault(1); break;
            case 8: x.witness(0); break;
            case 9: x.undo(); x.limit(50); break;
            default: x.drop(0); PromiseTests.gift(x, "to a when " + "after 1 ".repeat(5) + "(born)"); break;
        }
    }

    static void room() {
        for (int which = 0; which <= 10; which++) {
            long bytes = room(which);
            check(bytes < 2_500_000, "little room, " + which + ": " + bytes);
        }
    }

    public static void main(String[] arguments) throws IOException {
        face();
        sizes();
        source();
        room();
        System.out.println(wrong == 0 ? "the rules are kept" : wrong + " are not kept");
        if (wrong != 0) {
            System.exit(1);
        }
    }
}
