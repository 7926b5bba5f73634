import java.io.IOException;
import java.nio.charset.StandardCharsets;
import java.nio.file.Files;
import java.nio.file.Path;
import java.util.NoSuchElementException;
import java.util.TreeSet;
import java.util.function.Supplier;
import java.util.function.ToIntFunction;

/** What the tests of the promises have in common: telling TEXTS, comparing answers, calls that are refused. */
class Checks {
    static final int NONE = -1;
    static final int HIDDEN = -1000000;
    /** What person() "answers", if it throws the exception that the document names. */
    static final int THROWN = -777;
    static final int MIN = Integer.MIN_VALUE;
    static final int MAX = Integer.MAX_VALUE;
    static final String FOUR = "a 60; b 30 of a; c 5 of b; d 20";
    static final String DOCUMENT = document();
    static final TreeSet<Integer> SAID = new TreeSet<>();
    static String saying = "";
    static int wrong;

    /** The document's words; none, where it isn't at hand: the answers can be compared without it. */
    private static String document() {
        Path path = Path.of("../shared/DOC.md");
        try {
            return Files.exists(path) ? Files.readString(path, StandardCharsets.UTF_8).replaceAll("\\s+", " ") : "";
        } catch (IOException e) {
            return "";
        }
    }

    /** The checks behind it, up to the next one, are for this sentence of the document and this promise. */
    static void says(int promise, String sentence) {
        saying = promise + " (" + sentence + ") ";
        SAID.add(promise);
        if (!DOCUMENT.isEmpty() && !DOCUMENT.contains(sentence)) {
            wrong++;
            System.out.println("the document doesn't say: " + sentence);
        }
    }

    static void due(String call, long got, long want) {
        if (got != want) {
            wrong++;
            System.out.println(saying + call + " answered " + got + ", due is " + want);
        }
    }

    static void due(String call, boolean got, boolean want) {
        due(call, got ? 1 : 0, want ? 1 : 0);
    }

    /** Each of these promises has had checks of its own. */
    static void covered(int first, int last) {
        saying = "";
        for (int promise = first; promise <= last; promise++) {
            due("checks of promise " + promise, SAID.contains(promise), true);
        }
    }

    /** Ends the program, with exit code 1, if an answer was wrong. */
    static void tellHowItWent(String right) {
        System.out.println(wrong == 0 ? right : wrong + " answers are not as due");
        if (wrong != 0) {
            System.exit(1);
        }
    }

    // ---- texts

    /** Puts a TEXT on the TAPE, instead of what was there. */
    static void tell(LaterLives x, String text) {
        x.end(0);
        add(x, text);
    }

    static int add(LaterLives x, String text) {
        int length = NONE;
        for (int at = 0; at < text.length(); at += 20) {
            length = x.feed(word(text, at), word(text, at + 4), word(text, at + 8), word(text, at + 12), word(text, at + 16));
        }
        return length;
    }

    static int word(String text, int from) {
        int word = 0;
        for (int i = from; i < from + 4; i++) {
            word = word << 8 | (i < text.length() ? text.charAt(i) : 0);
        }
        return word;
    }

    static LaterLives made(String family, String... gifts) {
        LaterLives x = new LaterLives();
        tell(x, family);
        due("family() of " + family, x.family() > 0, true);
        for (int i = 0; i < gifts.length; i++) {
            due("gift() of " + gifts[i], gift(x, gifts[i]), i);
        }
        return x;
    }

    static int gift(LaterLives x, String text) {
        tell(x, text);
        return x.gift();
    }

    static int story(LaterLives x, String text) {
        tell(x, text);
        return x.story();
    }

    static int person(LaterLives x, int person, int what) {
        try {
            return x.person(person, what);
        } catch (NoSuchElementException e) {
            return THROWN;
        }
    }

    static void faults(LaterLives x, int what, String text, int place) {
        tell(x, text);
        due("fault(" + what + ") of '" + text + "'", x.fault(what), place);
    }

    static String times(String text, int n) {
        return text.repeat(n);
    }

    static String text(LaterLives x, int gift) {
        StringBuilder b = new StringBuilder();
        int length = x.written(gift, NONE);
        for (int k = 0; k < length; k++) {
            b.append((char) x.written(gift, k));
        }
        return b.toString();
    }

    static void writes(String told, String written) {
        LaterLives x = made(FOUR, told);
        String got = text(x, 0);
        if (!got.equals(written)) {
            wrong++;
            System.out.println(saying + "'" + told + "' is written '" + got + "', due is '" + written + "'");
        }
        due("written length", x.written(0, NONE), written.length());
        due("written behind the end", x.written(0, written.length()), NONE);
    }

    // ---- refused calls

    /** The call is refused with this answer, STATUS counts it once (reason NONE: not at all), and all else is as it was. */
    static void refused(String call, Supplier<LaterLives> start, ToIntFunction<LaterLives> act, int answer, int reason) {
        LaterLives x = start.get();
        LaterLives untouched = start.get();
        due(call, act.applyAsInt(x), answer);
        for (int i = 0; i < 5; i++) {
            due(call + ", status(" + i + ") more", x.status(i) - untouched.status(i), i == reason ? 1 : 0);
        }
        String[] got = view(x).split("\n");
        String[] want = view(untouched).split("\n");
        for (int i = 0; i < want.length; i++) {
            if (i >= got.length || !got[i].equals(want[i])) {
                due(call + ", then " + (i < got.length ? got[i] : "nothing") + " for " + want[i], 1, 0);
                return;
            }
        }
        due(call + ", then as many answers", got.length, want.length);
    }

    /** As refused(), where STATUS isn't told. */
    static void asked(String call, Supplier<LaterLives> start, ToIntFunction<LaterLives> act, int answer) {
        refused(call, start, act, answer, NONE);
    }

    /** All that can be seen of an object but STATUS, in some 300 calls; it isn't the same any more then. */
    static String view(LaterLives x) {
        StringBuilder b = new StringBuilder();
        for (int i = 0; i < 3; i++) {
            note(b, "fault " + i, x.fault(i));
        }
        note(b, "bytes", x.size(0));
        note(b, "acts", x.size(1));
        rules(b, x);
        for (int i = 0; i < 7; i++) {
            note(b, "most " + i, x.most(i));
        }
        for (int i = 0; i < 5; i++) {
            note(b, "storied " + i, x.storied(i));
        }
        int persons = x.rule(1);
        for (int p = 0; p < persons; p = p < 5 || p == persons - 1 ? p + 1 : persons - 1) {
            for (int what = 0; what < 5; what++) {
                note(b, "person " + p + ", " + what, person(x, p, what));
            }
        }
        for (int g = 0; g < x.rule(6); g++) {
            viewGift(b, x, g);
        }
        viewPast(b, x);
        return b.toString();
    }

    private static void viewGift(StringBuilder b, LaterLives x, int gift) {
        for (int what = 0; what < 4; what++) {
            note(b, "told " + gift + ", " + what, x.told(gift, what));
        }
        note(b, "written " + gift, x.written(gift, NONE));
        note(b, "state " + gift, x.state(gift));
        note(b, "good " + gift, x.good(gift));
        note(b, "storyState " + gift, x.storyState(gift));
        for (int p = 0; p < 5; p++) {
            note(b, "vests " + gift + ", " + p, x.vests(gift, p));
        }
    }

    /** What ACTS and an IMAGE would bring again, and what the TAPE is as a FAMILY. */
    private static void viewPast(StringBuilder b, LaterLives x) {
        int left = 0;
        for (int i = 0; i < 20 && left != NONE; i++) {
            left = x.undo();
            note(b, "undo", left);
            note(b, "rule 0", x.rule(0));
            note(b, "rule 1", x.rule(1));
            note(b, "rule 2", x.rule(2));
            note(b, "rule 6", x.rule(6));
        }
        note(b, "back", x.back());
        rules(b, x);
        note(b, "family", x.family());
        note(b, "person 0, 0", person(x, 0, 0));
    }

    private static void rules(StringBuilder b, LaterLives x) {
        for (int i = 0; i < 9; i++) {
            note(b, "rule " + i, x.rule(i));
        }
    }

    private static void note(StringBuilder b, String call, int answer) {
        b.append(call).append(" = ").append(answer).append('\n');
    }
}
