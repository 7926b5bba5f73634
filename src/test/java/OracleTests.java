import java.lang.reflect.InvocationTargetException;
import java.lang.reflect.Method;
import java.nio.charset.StandardCharsets;
import java.util.ArrayList;
import java.util.List;
import java.util.NoSuchElementException;
import java.util.Random;

/** Many runs of 512 calls by fixed seeds, each answer compared with the Oracle's. */
public final class OracleTests {
    static final String[] FACES = {
        "feed", "end", "fault", "family", "gift", "drop", "pass", "birth", "death", "period", "limit", "rule", "person",
        "told", "written", "member", "vests", "closes", "state", "count", "share", "story", "storied", "storyState",
        "storyVests", "good", "behind", "soonest", "carriers", "ways", "lowered", "witness", "course", "lates", "worst",
        "firstBad", "undo", "image", "back", "status", "most", "size"};

    final Random random;
    final LaterLives mine = new LaterLives();
    final Oracle other = new Oracle();
    final List<String> told = new ArrayList<>();
    final boolean gentle;
    /** Many arguments and NUMBERS at their bounds and beside them. */
    final boolean edgy;
    int calls;
    String names = "a";

    OracleTests(long seed) {
        random = new Random(seed);
        gentle = seed % 3 != 0;
        edgy = seed % 4 == 0;
    }

    static Method method(Class<?> c, String name) {
        for (Method m : c.getDeclaredMethods()) {
            if (m.getName().equals(name) && !java.lang.reflect.Modifier.isStatic(m.getModifiers())
                && (m.getReturnType() == int.class || m.getReturnType() == boolean.class)
                && java.util.Arrays.stream(m.getParameterTypes()).allMatch(t -> t == int.class)) {
                m.setAccessible(true);
                return m;
            }
        }
        throw new IllegalStateException(name);
    }

    static String answer(Object on, String name, Object[] arguments) {
        try {
            return String.valueOf(method(on.getClass(), name).invoke(on, arguments));
        } catch (InvocationTargetException e) {
            return e.getCause() instanceof NoSuchElementException ? "NoSuchElementException" : String.valueOf(e.getCause());
        } catch (IllegalAccessException e) {
            return e.toString();
        }
    }

    void call(String name, Object... arguments) {
        calls++;
        if (calls > 512) {
            throw new IllegalStateException("a run is too long");
        }
        String want = answer(other, name, arguments);
        String got = answer(mine, name, arguments);
        told.add(name + java.util.Arrays.toString(arguments) + " = " + got);
        if (!want.equals(got) || (got.contains("xception") && !got.equals("NoSuchElementException"))) {
            told.forEach(System.out::println);
            throw new IllegalStateException(name + ": " + got + ", due is " + want);
        }
    }

    int below(int n) {
        return random.nextInt(n);
    }

    boolean rare(int n) {
        return random.nextInt(gentle ? 8 * n : n) == 0;
    }

    String blanks() {
        return below(6) == 0 ? "  " : below(5) == 0 ? "" : " ";
    }

    String number(int most) {
        if (edgy && below(3) == 0) {
            return String.valueOf(new int[] {0, 1, most - 1, most, 21, 22}[below(6)]);
        }
        int n = below(12) == 0 ? most : rare(15) ? most + 1 : below(most + 1);
        return rare(20) ? "0" + n : String.valueOf(n);
    }

    String name() {
        return rare(25) ? String.valueOf((char) ('a' + below(12))) : String.valueOf(names.charAt(below(names.length())));
    }

    String familyText() {
        StringBuilder b = new StringBuilder();
        int many = rare(20) ? 9 : edgy && below(2) == 0 ? 8 : 1 + below(8);
        int[] ages = new int[many];
        StringBuilder used = new StringBuilder();
        for (int i = 0; i < many; i++) {
            char c = "abcdefghi".charAt(rare(30) ? 0 : i);
            int parent = i > 0 && below(4) > 0 ? below(i) : -1;
            ages[i] = parent >= 0 ? Math.max(0, ages[parent] - 13 - (edgy ? below(2) : below(20)))
                : edgy && below(2) == 0 ? 99 * below(2) : below(100);
            b.append(i > 0 ? blanks() + ";" + blanks() : "").append(c).append(blanks()).append(ages[i]);
            if (parent >= 0 && (ages[parent] - ages[i] >= 13 || rare(10))) {
                b.append(blanks()).append("of ").append(used.charAt(parent));
            }
            used.append(c);
        }
        names = used.toString().replace("i", "a");
        return b.toString();
    }

    String fact(int depth) {
        switch (below(depth > 0 ? 8 : 6)) {
            case 0: return "years " + number(99);
            case 1: return "dies " + name();
            case 2: return "born";
            case 3: return "reaches " + number(below(2) == 0 ? 99 : 25);
            case 4: return name() + " reaches" + blanks() + number(99);
            case 5: return below(4) == 0 ? "after " + number(99) + " " + fact(depth - 1) : "reaches " + number(30);
            case 6: return "after " + number(below(2) == 0 ? 99 : 20) + blanks() + fact(depth - 1);
            default: return "(" + blanks() + any(depth - 1) + blanks() + ")";
        }
    }

    String any(int depth) {
        StringBuilder b = new StringBuilder(fact(depth));
        for (int i = below(4); i > 0; i--) {
            b.append(below(2) == 0 ? " and " : " or ").append(fact(depth));
        }
        return b.toString();
    }

    String giftText() {
        String who = new String[] {"", "children ", "grandchildren "}[below(3)];
        return "to " + who + name() + blanks() + " when " + any(rare(8) ? 7 : below(4));
    }

    String storyText() {
        StringBuilder b = new StringBuilder();
        int many = rare(15) ? 29 + below(4) : 1 + below(14);
        int year = 0;
        for (int i = 0; i < many; i++) {
            b.append(i > 0 ? ";" : "");
            if (below(3) == 0 || i == 0 && below(5) > 0) {
                year += below(12);
                b.append(i > 0 ? blanks() : "").append("in ").append(rare(40) ? year - 1 : year);
            } else {
                String who = below(4) == 0 ? names.substring(0, 1) : below(2) == 0 ? name() : "person" + blanks() + (rare(30) ? 24 : below(10));
                b.append(who).append(below(3) == 0 ? " dies" : " bears");
            }
        }
        return b.toString();
    }

    String spoiled(String text) {
        if (!rare(6) || text.isEmpty()) {
            return text;
        }
        int at = below(text.length());
        switch (below(4)) {
            case 0: return text.substring(0, at);
            case 1: return text.substring(0, at) + text.substring(at + 1);
            case 2: return text.substring(0, at) + (char) (1 + below(255)) + text.substring(at);
            default: return text.substring(0, at) + " ;()a1 ".charAt(below(7)) + text.substring(at);
        }
    }

    void tell(String text) {
        if (!rare(10)) {
            call("end", 0);
        }
        byte[] bytes = text.getBytes(StandardCharsets.ISO_8859_1);
        for (int at = 0; at < bytes.length; at += 20) {
            Object[] words = new Object[5];
            for (int w = 0; w < 5; w++) {
                int word = 0;
                for (int i = 0; i < 4; i++) {
                    int k = at + 4 * w + i;
                    word = word << 8 | (k < bytes.length ? bytes[k] & 255 : 0);
                }
                words[w] = word;
            }
            call("feed", words);
        }
    }

    int some(int least, int most) {
        if (edgy && below(3) == 0) {
            return new int[] {least - 1, least, least, most, most, most + 1}[below(6)];
        }
        if (!gentle && below(12) == 0) {
            return new int[] {Integer.MIN_VALUE, Integer.MAX_VALUE, -1, most + 1, least - 1}[below(5)];
        }
        return least + below(most - least + 1);
    }

    int oneGift() {
        int there = other.state == null ? 1 : Math.max(1, other.state.gifts.size());
        return gentle ? below(there) : some(-1, there);
    }

    int onePerson() {
        return some(0, other.state == null ? 2 : Math.min(23, other.state.persons.size()));
    }

    int oneLife() {
        return some(0, other.state == null ? 2 : other.state.lives - 1);
    }

    void step() {
        int dice = below(60);
        if (dice < 3) {
            tell(spoiled(giftText()));
            call("fault", 1);
            call("gift");
        } else if (dice == 3) {
            tell(spoiled(storyText()));
            call("fault", 2);
            call("story");
            sweep(true);
        } else if (dice == 4 && below(20) == 0) {
            tell(spoiled(familyText()));
            call("fault", 0);
            call("family");
        } else if (dice < 10) {
            call("pass", below(6) == 0 ? some(1, 100) : edgy && below(9) == 0 ? 100 : 1 + below(12));
        } else if (dice < 18) {
            call("birth", onePerson());
        } else if (dice < 21) {
            call("death", onePerson());
        } else if (dice < 23) {
            sweep(false);
        } else if (dice < 25) {
            trySweep();
        } else {
            ask();
        }
    }

    /** All that wait and see tells of a GIFT. */
    void sweep(boolean story) {
        int gift = oneGift();
        call(story ? "storyState" : "state", gift);
        Oracle.State s = story ? other.aside : other.state;
        for (int i = 0; s != null && i < s.persons.size(); i++) {
            call(story ? "storyVests" : "vests", gift, i);
            if (!story && below(3) == 0) {
                call("share", gift, i, below(200));
            }
        }
        for (int i = 0; !story && i < 4; i++) {
            call("count", gift, i);
            call("closes", gift, i);
        }
    }

    /** All that THE TEST tells of a GIFT. */
    void trySweep() {
        int gift = oneGift();
        for (String name : new String[] {"good", "carriers", "ways", "lowered", "witness", "lates"}) {
            call(name, gift);
        }
        for (int i = 0; i < 3; i++) {
            call("worst", gift, i);
        }
        if (other.noGift(gift)) {
            return;
        }
        for (int[] m : other.allMembers(other.state.gifts.get(gift))) {
            int set = below(1 << other.state.lives);
            call("behind", gift, m[0], m[1], set);
            call("soonest", gift, m[0], m[1]);
            call("course", gift, m[0], m[1], set + 256 * below(2));
        }
    }

    void ask() {
        String name = FACES[below(FACES.length)];
        switch (name) {
            case "feed": call(name, below(5) == 0 ? random.nextInt() : 0x20, 0, 0, 0, below(5) == 0 ? 0x61000062 : 0); break;
            case "end": call(name, some(-1, 60)); break;
            case "fault": call(name, some(-1, 3)); break;
            case "family": case "gift": case "story": case "firstBad": case "undo": case "image": call(name); break;
            case "back": if (below(4) == 0) { call(name); } break;
            case "drop": if (below(4) == 0) { call(name, oneGift()); } break;
            case "pass": call(name, 1 + below(3)); break;
            case "birth": case "death": call(name, onePerson()); break;
            case "period": call(name, some(0, 99)); break;
            case "limit": call(name, some(13, 99)); break;
            case "rule": call(name, some(-1, 9)); break;
            case "person": call(name, onePerson(), some(-1, 5)); break;
            case "told": call(name, oneGift(), some(-1, 4)); break;
            case "written": call(name, oneGift(), some(-1, 80)); break;
            case "member": call(name, oneGift(), some(-1, 5)); break;
            case "vests": case "storyVests": call(name, oneGift(), onePerson()); break;
            case "closes": call(name, oneGift(), some(-1, 2)); break;
            case "count": call(name, oneGift(), some(-1, 4)); break;
            case "share": call(name, oneGift(), onePerson(), some(0, 1000000)); break;
            case "storied": call(name, some(-1, 5)); break;
            case "behind": call(name, oneGift(), some(0, 2), oneLife(), some(0, (1 << names.length()) - 1)); break;
            case "soonest": call(name, oneGift(), some(0, 2), oneLife()); break;
            case "course":
                call(name, oneGift(), some(0, 2), oneLife(), some(0, (1 << names.length()) - 1) + 256 * below(2));
                break;
            case "worst": call(name, oneGift(), some(-1, 3)); break;
            case "status": case "most": case "size": call(name, some(-1, 7)); break;
            default: call(name, oneGift()); break;
        }
    }

    void run() {
        for (int i = 0; i < 4 && other.state == null && !rare(40); i++) {
            tell(familyText());
            call("family");
            call("end", 0);
        }
        while (calls < 420) {
            step();
        }
    }

    public static void main(String[] arguments) {
        int runs = arguments.length > 0 ? Integer.parseInt(arguments[0]) : 1500;
        for (long seed = 1; seed <= runs; seed++) {
            OracleTests one = new OracleTests(seed);
            try {
                one.run();
            } catch (RuntimeException e) {
                System.out.println("seed " + seed + ": " + e.getMessage());
                System.exit(1);
            }
        }
        System.out.println(runs + " runs as the oracle's");
    }
}
