import java.util.ArrayDeque;
import java.util.ArrayList;
import java.util.Deque;
import java.util.List;
import java.util.NoSuchElementException;
import java.util.function.Function;
import java.util.regex.Matcher;
import java.util.regex.Pattern;

/** The document once more, written plainly and in another way (trees, lists, copies), to be compared with LaterLives. */
final class Oracle {
    static final int NONE = -1;
    static final int HIDDEN = -1000000;
    static final double EVER = Double.POSITIVE_INFINITY;

    static final class Fault extends RuntimeException {
        static final long serialVersionUID = 1;
        final int at;

        Fault(int at) {
            super(null, null, false, false);
            this.at = at;
        }
    }

    static final class Person {
        int birth;
        Integer death;
        int parent;

        Person(int birth, Integer death, int parent) {
            this.birth = birth;
            this.death = death;
            this.parent = parent;
        }
    }

    /** A tree: or, and, group, after, years, dies, born, reaches, liferaches. */
    static final class E {
        final String op;
        int n;
        int life = NONE;
        final List<E> parts = new ArrayList<>();

        E(String op) {
            this.op = op;
        }

        E lowered(int most) {
            E copy = new E(op);
            copy.n = op.endsWith("reaches") ? Math.min(most, n) : n;
            copy.life = life;
            for (E part : parts) {
                copy.parts.add(part.lowered(most));
            }
            return copy;
        }
    }

    static final class Bequest {
        int whom;
        int life;
        E e;
        int facts;
    }

    static final class State {
        List<Person> persons = new ArrayList<>();
        int lives;
        int now;
        int period = 21;
        int limit = 99;
        List<Bequest> gifts = new ArrayList<>();

        State copy() {
            State s = new State();
            for (Person p : persons) {
                s.persons.add(new Person(p.birth, p.death, p.parent));
            }
            s.lives = lives;
            s.now = now;
            s.period = period;
            s.limit = limit;
            s.gifts = new ArrayList<>(gifts);
            return s;
        }

        State start() {
            State s = new State();
            for (int i = 0; i < lives; i++) {
                s.persons.add(new Person(persons.get(i).birth, null, persons.get(i).parent));
            }
            s.lives = lives;
            return s;
        }

        boolean has(int p) {
            return p >= 0 && p < persons.size();
        }

        int lastDeath() {
            int last = NONE;
            for (Person p : persons.subList(0, lives)) {
                if (p.death == null) {
                    return NONE;
                }
                last = Math.max(last, p.death);
            }
            return last;
        }

        int theEnd(int period) {
            return lastDeath() == NONE ? NONE : lastDeath() + period;
        }

        int livingBits() {
            int bits = 0;
            for (int i = 0; i < lives; i++) {
                bits += persons.get(i).death == null ? 1 << i : 0;
            }
            return bits;
        }

        List<Integer> childrenOf(int person) {
            List<Integer> found = new ArrayList<>();
            for (int i = 0; i < persons.size(); i++) {
                if (persons.get(i).parent == person) {
                    found.add(i);
                }
            }
            return found;
        }

        List<Integer> classOf(Bequest g) {
            if (g.whom == 0) {
                return List.of(g.life);
            }
            List<Integer> found = new ArrayList<>();
            for (int child : childrenOf(g.life)) {
                if (g.whom == 1) {
                    found.add(child);
                } else {
                    found.addAll(childrenOf(child));
                }
            }
            found.sort(null);
            return found;
        }
    }

    // ---- texts

    static final class Reader {
        static final Pattern PART = Pattern.compile("[a-z]+|[0-9]+|[^ ]", Pattern.DOTALL);
        final List<String> parts = new ArrayList<>();
        final List<Integer> places = new ArrayList<>();
        int at;

        Reader(String text) {
            Matcher m = PART.matcher(text);
            while (m.find()) {
                parts.add(m.group());
                places.add(m.start());
            }
            parts.add("");
            places.add(text.length());
        }

        String peek() {
            return parts.get(at);
        }

        Fault here() {
            return new Fault(places.get(at));
        }

        boolean over() {
            return at == parts.size() - 1;
        }

        boolean skip(String word) {
            if (peek().equals(word) && !word.isEmpty()) {
                at++;
                return true;
            }
            return false;
        }

        void need(String word) {
            if (!skip(word)) {
                throw here();
            }
        }

        int number(int least, int most) {
            String p = peek();
            if (!p.matches("[0-9]{1,3}") || Integer.parseInt(p) < least || Integer.parseInt(p) > most) {
                throw here();
            }
            at++;
            return Integer.parseInt(p);
        }

        int name(String names) {
            String p = peek();
            if (!p.matches("[a-z]") || names.indexOf(p.charAt(0)) < 0) {
                throw here();
            }
            at++;
            return names.indexOf(p.charAt(0));
        }
    }

    static final class GiftText {
        final Reader r;
        final String names;
        int facts;

        GiftText(String text, String names) {
            r = new Reader(text);
            this.names = names;
        }

        Bequest read() {
            Bequest g = new Bequest();
            r.need("to");
            g.whom = r.skip("children") ? 1 : r.skip("grandchildren") ? 2 : 0;
            g.life = r.name(names);
            r.need("when");
            g.e = any(0);
            if (!r.over()) {
                throw r.here();
            }
            g.facts = facts;
            return g;
        }

        E any(int within) {
            E e = new E("or");
            do {
                e.parts.add(all(within));
            } while (r.skip("or"));
            return e;
        }

        E all(int within) {
            E e = new E("and");
            do {
                e.parts.add(fact(within));
            } while (r.skip("and"));
            return e;
        }

        E fact(int within) {
            String p = r.peek();
            if (p.equals("(")) {
                return group(within);
            }
            if (facts == 16) {
                throw r.here();
            }
            facts++;
            E e;
            if (p.equals("after")) {
                if (within == 5) {
                    throw r.here();
                }
                r.need("after");
                e = new E("after");
                e.n = r.number(0, 99);
                e.parts.add(fact(within + 1));
                return e;
            }
            if (r.skip("years")) {
                e = new E("years");
                e.n = r.number(0, 99);
            } else if (r.skip("dies")) {
                e = new E("dies");
                e.life = r.name(names);
            } else if (r.skip("born")) {
                e = new E("born");
            } else if (r.skip("reaches")) {
                e = new E("reaches");
                e.n = r.number(0, 99);
            } else {
                e = new E("lifereaches");
                e.life = r.name(names);
                r.need("reaches");
                e.n = r.number(0, 99);
            }
            return e;
        }

        E group(int within) {
            if (within == 5) {
                throw r.here();
            }
            r.need("(");
            E e = new E("group");
            e.parts.add(any(within + 1));
            r.need(")");
            return e;
        }
    }

    static String write(E e, String names) {
        switch (e.op) {
            case "or":
            case "and":
                StringBuilder b = new StringBuilder();
                for (E p : e.parts) {
                    b.append(b.length() > 0 ? " " + e.op + " " : "").append(write(p, names));
                }
                return b.toString();
            case "group": return "( " + write(e.parts.get(0), names) + " )";
            case "after": return "after " + e.n + " " + write(e.parts.get(0), names);
            case "years": return "years " + e.n;
            case "dies": return "dies " + names.charAt(e.life);
            case "born": return "born";
            case "reaches": return "reaches " + e.n;
            default: return names.charAt(e.life) + " reaches " + e.n;
        }
    }

    String written(Bequest g) {
        String who = g.whom == 1 ? "children " : g.whom == 2 ? "grandchildren " : "";
        return "to " + who + names.charAt(g.life) + " when " + write(g.e, names);
    }

    // ---- WHEN

    /** A YEAR, -1 NOT YET, -2 NEVER. */
    static int when(E e, State s, int birth, Integer death) {
        switch (e.op) {
            case "years": return e.n <= s.now ? e.n : -1;
            case "dies": return s.persons.get(e.life).death == null ? -1 : s.persons.get(e.life).death;
            case "born": return birth < 0 ? 0 : birth;
            case "reaches": return reach(birth, death, e.n, s.now);
            case "lifereaches": return reach(s.persons.get(e.life).birth, s.persons.get(e.life).death, e.n, s.now);
            case "after":
                int base = when(e.parts.get(0), s, birth, death);
                return base < 0 ? base : base + e.n > s.now ? -1 : base + e.n;
            default:
        }
        List<Integer> answers = new ArrayList<>();
        for (E p : e.parts) {
            answers.add(when(p, s, birth, death));
        }
        if (e.op.equals("and")) {
            if (answers.contains(-2)) {
                return -2;
            }
            if (answers.contains(-1)) {
                return -1;
            }
            return answers.stream().mapToInt(x -> x).max().getAsInt();
        }
        if (answers.stream().anyMatch(x -> x >= 0)) {
            return answers.stream().mapToInt(x -> x).filter(x -> x >= 0).min().getAsInt();
        }
        return answers.contains(-1) ? -1 : -2;
    }

    static int reach(int birth, Integer death, int n, int now) {
        int year = birth + n < 0 ? 0 : birth + n;
        if (death != null && death < year) {
            return -2;
        }
        return year <= now ? year : -1;
    }

    static int vestsIn(E e, State s, int birth, Integer death) {
        int year = when(e, s, birth, death);
        return year >= 0 && birth > year ? birth : year;
    }

    // ---- wait and see

    static int rawVests(State s, Bequest g, int person) {
        return vestsIn(g.e, s, s.persons.get(person).birth, s.persons.get(person).death);
    }

    static int convenience(State s, Bequest g) {
        int first = NONE;
        for (int p : g.whom == 0 ? List.<Integer>of() : s.classOf(g)) {
            int year = rawVests(s, g, p);
            if (year >= 0 && (first == NONE || year < first)) {
                first = year;
            }
        }
        return first;
    }

    static int nature(State s, Bequest g) {
        if (g.whom == 0) {
            return NONE;
        }
        List<Integer> bearers = new ArrayList<>(List.of(g.life));
        if (g.whom == 2) {
            bearers.addAll(s.childrenOf(g.life));
        }
        int last = NONE;
        for (int b : bearers) {
            if (s.persons.get(b).death == null) {
                return NONE;
            }
            last = Math.max(last, s.persons.get(b).death);
        }
        return last;
    }

    static List<Integer> members(State s, Bequest g) {
        List<Integer> found = new ArrayList<>();
        int closed = convenience(s, g);
        for (int p : s.classOf(g)) {
            if (closed == NONE || s.persons.get(p).birth <= closed) {
                found.add(p);
            }
        }
        return found;
    }

    static boolean nobodyComes(State s, Bequest g) {
        return g.whom == 0 || convenience(s, g) != NONE || nature(s, g) != NONE;
    }

    static int vests(State s, Bequest g, int person) {
        return members(s, g).contains(person) ? rawVests(s, g, person) : -3;
    }

    static int[] counts(State s, Bequest g, int period) {
        int[] c = new int[4];
        int end = s.theEnd(period);
        for (int p : members(s, g)) {
            int y = vests(s, g, p);
            c[y == -1 ? 3 : y == -2 ? 2 : end != NONE && y > end ? 1 : 0]++;
        }
        return c;
    }

    static int state(State s, Bequest g, int period) {
        int[] c = counts(s, g, period);
        int end = s.theEnd(period);
        if (c[1] > 0 || end != NONE && s.now > end && c[3] > 0) {
            return 2;
        }
        if (c[0] + c[1] + c[3] == 0 && nobodyComes(s, g)) {
            return 3;
        }
        return c[3] == 0 && nobodyComes(s, g) ? 1 : 0;
    }

    // ---- THE TEST

    /** H and S. */
    static double[] bounds(E e, State s, int sort, int life, int set) {
        double born = bornBound(sort, life, set);
        switch (e.op) {
            case "years": return new double[] {e.n, e.n};
            case "dies": return in(set, e.life) ? new double[] {0, 0} : new double[] {EVER, EVER};
            case "born": return new double[] {born, born};
            case "reaches":
                if (sort == 0) {
                    return ageBounds(s, life, e.n, set);
                }
                return e.n == 0 ? new double[] {born, born} : new double[] {born + e.n, EVER};
            case "lifereaches": return ageBounds(s, e.life, e.n, set);
            case "after":
                double[] base = bounds(e.parts.get(0), s, sort, life, set);
                return new double[] {base[0] + e.n, base[1] + e.n};
            default:
        }
        double most = 0;
        double least = EVER;
        double mostSure = 0;
        for (E p : e.parts) {
            double[] b = bounds(p, s, sort, life, set);
            most = Math.max(most, b[0]);
            mostSure = Math.max(mostSure, b[1]);
            least = Math.min(least, b[1]);
        }
        return e.op.equals("and") ? new double[] {most, mostSure} : new double[] {Math.min(most, least), least};
    }

    static double bornBound(int sort, int life, int set) {
        return sort == 0 ? 0 : sort == 1 && in(set, life) ? 0 : EVER;
    }

    static double[] ageBounds(State s, int life, int n, int set) {
        int age = -s.persons.get(life).birth;
        if (age >= n) {
            return new double[] {0, 0};
        }
        return new double[] {in(set, life) ? 0 : n - age, EVER};
    }

    static boolean in(int set, int life) {
        return (set & 1 << life) != 0;
    }

    static double behind(State s, E e, int[] m, int set) {
        return Math.max(bounds(e, s, m[0], m[1], set)[0], bornBound(m[0], m[1], set));
    }

    static int soonest(E e, State s, int sort, int life) {
        int born = sort == 0 ? 0 : sort == 1 ? 1 : 14;
        switch (e.op) {
            case "years": return e.n;
            case "dies": return 0;
            case "born": return born;
            case "reaches": return sort == 0 ? Math.max(0, e.n + s.persons.get(life).birth) : born + e.n;
            case "lifereaches": return Math.max(0, e.n + s.persons.get(e.life).birth);
            case "after": return e.n + soonest(e.parts.get(0), s, sort, life);
            default:
        }
        var all = e.parts.stream().mapToInt(p -> soonest(p, s, sort, life));
        return e.op.equals("and") ? all.max().getAsInt() : all.min().getAsInt();
    }

    /** All members {sort, life} by sorts, then lives, whether SORT 0 counts alone or not. */
    List<int[]> allMembers(Bequest g) {
        State s = state.start();
        List<int[]> found = new ArrayList<>();
        for (int p : s.classOf(g)) {
            found.add(new int[] {0, p});
        }
        if (g.whom == 1 && -s.persons.get(g.life).birth <= state.limit) {
            found.add(new int[] {1, g.life});
        }
        if (g.whom == 2) {
            for (int child : s.childrenOf(g.life)) {
                if (-s.persons.get(child).birth <= state.limit) {
                    found.add(new int[] {1, child});
                }
            }
            if (-s.persons.get(g.life).birth <= state.limit) {
                found.add(new int[] {2, g.life});
            }
        }
        return found;
    }

    List<int[]> testMembers(Bequest g, E e) {
        State s = state.start();
        boolean vested = false;
        for (int p : s.classOf(g)) {
            vested |= vestsIn(e, s, s.persons.get(p).birth, null) >= 0;
        }
        List<int[]> found = new ArrayList<>();
        for (int[] m : allMembers(g)) {
            if (!vested || m[0] == 0) {
                found.add(m);
            }
        }
        return found;
    }

    boolean isMember(Bequest g, int sort, int life) {
        return allMembers(g).stream().anyMatch(m -> m[0] == sort && m[1] == life);
    }

    boolean isGood(Bequest g, E e, int set) {
        for (int[] m : testMembers(g, e)) {
            if (behind(state.start(), e, m, set) > state.period) {
                return false;
            }
        }
        return true;
    }

    int all() {
        return (1 << state.lives) - 1;
    }

    int courseYear(Bequest g, int sort, int life, int course) {
        State s = state.start();
        s.now = 400;
        for (int i = 0; i < s.lives; i++) {
            s.persons.get(i).death = in(course, i) ? 1 : 60;
        }
        if (sort == 0) {
            return vestsIn(g.e, s, s.persons.get(life).birth, s.persons.get(life).death);
        }
        int birth = course >= 256 ? 1 : s.persons.get(life).death;
        return vestsIn(g.e, s, sort == 2 ? birth + 30 : birth, null);
    }

    boolean lateBy(Bequest g, int course) {
        int last = (course & 255) == all() ? 1 : 60;
        for (int[] m : testMembers(g, g.e)) {
            if (courseYear(g, m[0], m[1], course) > last + state.period) {
                return true;
            }
        }
        return false;
    }

    List<Integer> courses() {
        List<Integer> found = new ArrayList<>();
        for (int set = 0; set <= all(); set++) {
            found.add(set);
        }
        for (int set = 0; set <= all(); set++) {
            found.add(256 + set);
        }
        return found;
    }

    // ---- the face

    String tape = "";
    String names = "";
    State state;
    State kept;
    State aside;
    int stopped;
    Deque<State> acts = new ArrayDeque<>();
    int[] refusals = new int[5];

    int feed(int a, int b, int c, int d, int e) {
        StringBuilder more = new StringBuilder(tape);
        for (int word : new int[] {a, b, c, d, e}) {
            for (byte piece : java.nio.ByteBuffer.allocate(4).putInt(word).array()) {
                if (piece != 0) {
                    more.append((char) (piece & 255));
                }
            }
        }
        if (more.length() > 300) {
            return NONE;
        }
        tape = more.toString();
        return tape.length();
    }

    boolean end(int n) {
        if (n < 0 || n > tape.length()) {
            return false;
        }
        tape = tape.substring(0, n);
        return true;
    }

    interface Reading {
        void run();
    }

    static int faultOf(Reading reading) {
        try {
            reading.run();
            return NONE;
        } catch (Fault f) {
            return f.at;
        }
    }

    int fault(int what) {
        if (what == 0) {
            return faultOf(() -> readFamily(new StringBuilder()));
        }
        if (state == null || what != 1 && what != 2) {
            return -2;
        }
        return what == 1 ? faultOf(() -> new GiftText(tape, names).read()) : faultOf(() -> readStory());
    }

    State readFamily(StringBuilder told) {
        Reader r = new Reader(tape);
        State s = new State();
        do {
            if (told.length() == 8) {
                throw r.here();
            }
            String p = r.peek();
            if (!p.matches("[a-h]") || told.indexOf(p) >= 0) {
                throw r.here();
            }
            r.at++;
            int age = r.number(0, 99);
            int parent = NONE;
            if (r.skip("of")) {
                int at = r.at;
                parent = r.name(told.toString());
                if (-s.persons.get(parent).birth < age + 13) {
                    r.at = at;
                    throw r.here();
                }
            }
            told.append(p);
            s.persons.add(new Person(-age, null, parent));
        } while (r.skip(";"));
        if (!r.over()) {
            throw r.here();
        }
        s.lives = s.persons.size();
        return s;
    }

    int family() {
        StringBuilder told = new StringBuilder();
        try {
            state = readFamily(told);
        } catch (Fault f) {
            return NONE;
        }
        names = told.toString();
        tape = "";
        kept = null;
        aside = null;
        acts.clear();
        return state.lives;
    }

    int refused(int why) {
        refusals[why]++;
        return NONE;
    }

    void act() {
        acts.push(state.copy());
        if (acts.size() > 16) {
            acts.removeLast();
        }
    }

    int gift() {
        if (state == null) {
            return refused(0);
        }
        Bequest g;
        try {
            g = new GiftText(tape, names).read();
        } catch (Fault f) {
            return refused(2);
        }
        if (state.gifts.size() == 8) {
            return refused(4);
        }
        act();
        state.gifts.add(g);
        tape = "";
        return state.gifts.size() - 1;
    }

    boolean noGift(int gift) {
        return state == null || gift < 0 || gift >= state.gifts.size();
    }

    int drop(int gift) {
        if (state == null) {
            return refused(0);
        }
        if (noGift(gift)) {
            return refused(1);
        }
        act();
        state.gifts.remove(gift);
        return state.gifts.size();
    }

    int pass(int n) {
        if (state == null) {
            return refused(0);
        }
        if (n < 1 || n > 100 || state.now + n > 399) {
            return refused(2);
        }
        act();
        return state.now += n;
    }

    static int whyNoBirth(State s, int parent) {
        if (!s.has(parent)) {
            return 1;
        }
        Person p = s.persons.get(parent);
        if (s.now == 0 || s.now - p.birth < 13) {
            return 2;
        }
        if (p.death != null && p.death < s.now) {
            return 3;
        }
        return s.persons.size() == 24 ? 4 : NONE;
    }

    static int whyNoDeath(State s, int person) {
        return !s.has(person) ? 1 : s.persons.get(person).death != null ? 3 : NONE;
    }

    int birth(int parent) {
        int why = state == null ? 0 : whyNoBirth(state, parent);
        if (why != NONE) {
            return refused(why);
        }
        act();
        state.persons.add(new Person(state.now, null, parent));
        return state.persons.size() - 1;
    }

    int death(int person) {
        int why = state == null ? 0 : whyNoDeath(state, person);
        if (why != NONE) {
            return refused(why);
        }
        act();
        state.persons.get(person).death = state.now;
        return state.now - state.persons.get(person).birth;
    }

    int period(int n) {
        if (state == null) {
            return refused(0);
        }
        if (n < 0 || n > 99) {
            return refused(2);
        }
        act();
        int was = state.period;
        state.period = n;
        return was;
    }

    int limit(int n) {
        if (state == null) {
            return refused(0);
        }
        if (n < 13 || n > 99) {
            return refused(2);
        }
        act();
        int was = state.limit;
        state.limit = n;
        return was;
    }

    int rule(int what) {
        if (state == null || what < 0 || what > 8) {
            return NONE;
        }
        return new int[] {state.now, state.persons.size(), state.livingBits(), state.lastDeath(), state.period,
            state.theEnd(state.period), state.gifts.size(), state.lives, state.limit}[what];
    }

    int person(int person, int what) {
        if (state == null || !state.has(person) || what < 0 || what > 4) {
            throw new NoSuchElementException();
        }
        Person p = state.persons.get(person);
        return new int[] {p.birth, p.death == null ? HIDDEN : p.death, p.parent,
            (p.death == null ? state.now : p.death) - p.birth, state.childrenOf(person).size()}[what];
    }

    int told(int gift, int what) {
        if (noGift(gift) || what < 0 || what > 3) {
            return NONE;
        }
        Bequest g = state.gifts.get(gift);
        return new int[] {g.whom, g.life, g.facts, g.e.parts.size()}[what];
    }

    int written(int gift, int k) {
        if (noGift(gift)) {
            return NONE;
        }
        String text = written(state.gifts.get(gift));
        return k == NONE ? text.length() : k >= 0 && k < text.length() ? text.charAt(k) : NONE;
    }

    int withGift(int gift, int none, Function<Bequest, Integer> f) {
        return noGift(gift) ? none : f.apply(state.gifts.get(gift));
    }

    int member(int gift, int i) {
        return withGift(gift, NONE, g -> {
            List<Integer> m = members(state, g);
            return i == NONE ? m.size() : i >= 0 && i < m.size() ? m.get(i) : NONE;
        });
    }

    int vests(int gift, int person) {
        return withGift(gift, HIDDEN, g -> state.has(person) ? vests(state, g, person) : HIDDEN);
    }

    int closes(int gift, int what) {
        return withGift(gift, NONE, g -> what == 0 ? convenience(state, g) : what == 1 ? nature(state, g) : NONE);
    }

    int state(int gift) {
        return withGift(gift, NONE, g -> state(state, g, state.period));
    }

    int count(int gift, int what) {
        return withGift(gift, NONE, g -> what < 0 || what > 3 ? NONE : counts(state, g, state.period)[what]);
    }

    int share(int gift, int person, int amount) {
        return withGift(gift, NONE, g -> {
            if (!state.has(person) || amount < 0 || amount > 1000000 || !nobodyComes(state, g)) {
                return NONE;
            }
            List<Integer> vested = new ArrayList<>(members(state, g));
            vested.removeIf(p -> rawVests(state, g, p) < 0);
            if (vested.isEmpty()) {
                return NONE;
            }
            int place = vested.indexOf(person);
            int left = amount - amount / vested.size() * vested.size();
            return place < 0 ? 0 : amount / vested.size() + (place < left ? 1 : 0);
        });
    }

    List<int[]> readStory() {
        Reader r = new Reader(tape);
        List<int[]> events = new ArrayList<>();
        int year = 0;
        do {
            if (events.size() == 30) {
                throw r.here();
            }
            if (r.skip("in")) {
                year = r.number(year, 399);
                events.add(new int[] {0, year});
            } else {
                int who = r.skip("person") ? r.number(0, 23) : r.name(names);
                boolean dies = r.skip("dies");
                if (!dies) {
                    r.need("bears");
                }
                events.add(new int[] {dies ? 1 : 2, who});
            }
        } while (r.skip(";"));
        if (!r.over()) {
            throw r.here();
        }
        return events;
    }

    int story() {
        List<int[]> events;
        if (state == null) {
            return NONE;
        }
        try {
            events = readStory();
        } catch (Fault f) {
            return NONE;
        }
        tape = "";
        aside = state.start();
        stopped = NONE;
        int done = 0;
        for (int[] e : events) {
            if (e[0] == 1 && whyNoDeath(aside, e[1]) != NONE || e[0] == 2 && whyNoBirth(aside, e[1]) != NONE) {
                stopped = done;
                break;
            }
            if (e[0] == 0) {
                aside.now = e[1];
            } else if (e[0] == 1) {
                aside.persons.get(e[1]).death = aside.now;
            } else {
                aside.persons.add(new Person(aside.now, null, e[1]));
            }
            done++;
        }
        return done;
    }

    int storied(int what) {
        if (aside == null || what < 0 || what > 4) {
            return NONE;
        }
        return new int[] {aside.now, aside.persons.size(), stopped, aside.theEnd(state.period), aside.livingBits()}[what];
    }

    int storyState(int gift) {
        return aside == null ? NONE : withGift(gift, NONE, g -> state(aside, g, state.period));
    }

    int storyVests(int gift, int person) {
        return aside == null || !aside.has(person) ? HIDDEN : withGift(gift, HIDDEN, g -> vests(aside, g, person));
    }

    int good(int gift) {
        return withGift(gift, NONE, g -> isGood(g, g.e, all()) ? 1 : 0);
    }

    boolean noMember(int sort, int life) {
        return state == null || sort < 0 || sort > 2 || life < 0 || life >= state.lives;
    }

    int behind(int gift, int sort, int life, int lives) {
        return withGift(gift, HIDDEN, g -> {
            if (noMember(sort, life) || lives < 0 || lives > all()) {
                return HIDDEN;
            }
            if (!isMember(g, sort, life)) {
                return -2;
            }
            double b = behind(state.start(), g.e, new int[] {sort, life}, lives);
            return b == EVER ? NONE : (int) b;
        });
    }

    int soonest(int gift, int sort, int life) {
        return withGift(gift, HIDDEN, g -> noMember(sort, life) ? HIDDEN : !isMember(g, sort, life) ? NONE
            : Math.max(soonest(g.e, state.start(), sort, life), sort == 0 ? 0 : sort == 1 ? 1 : 14));
    }

    int carriers(int gift) {
        return withGift(gift, NONE, g -> {
            for (int many = 0; many <= state.lives; many++) {
                for (int set = 0; set <= all(); set++) {
                    if (Integer.bitCount(set) == many && isGood(g, g.e, set)) {
                        return set;
                    }
                }
            }
            return NONE;
        });
    }

    int ways(int gift) {
        return withGift(gift, NONE, g -> {
            int bits = 0;
            for (int i = 0; i < g.e.parts.size(); i++) {
                bits += isGood(g, g.e.parts.get(i), all()) ? 1 << i : 0;
            }
            return bits;
        });
    }

    int lowered(int gift) {
        return withGift(gift, NONE, g -> {
            int best = NONE;
            for (int n = 0; n <= 99; n++) {
                best = isGood(g, g.e.lowered(n), all()) ? n : best;
            }
            return best;
        });
    }

    int witness(int gift) {
        return withGift(gift, NONE, g -> courses().stream().filter(c -> lateBy(g, c)).findFirst().orElse(NONE));
    }

    int course(int gift, int sort, int life, int course) {
        return withGift(gift, HIDDEN, g -> noMember(sort, life) || !courses().contains(course) ? HIDDEN
            : isMember(g, sort, life) ? courseYear(g, sort, life, course) : -3);
    }

    int lates(int gift) {
        return withGift(gift, NONE, g -> (int) courses().stream().filter(c -> lateBy(g, c)).count());
    }

    int worst(int gift, int what) {
        return withGift(gift, HIDDEN, g -> {
            int[] worst = null;
            double most = 0;
            for (int[] m : testMembers(g, g.e)) {
                double b = behind(state.start(), g.e, m, all());
                if (worst == null || b > most) {
                    worst = m;
                    most = b;
                }
            }
            if (worst == null || what < 0 || what > 2) {
                return HIDDEN;
            }
            return what < 2 ? worst[what] : most == EVER ? NONE : (int) most;
        });
    }

    int firstBad() {
        for (int i = 0; state != null && i < state.gifts.size(); i++) {
            if (good(i) == 0) {
                return i;
            }
        }
        return NONE;
    }

    int undo() {
        if (acts.isEmpty()) {
            return NONE;
        }
        state = acts.pop();
        return acts.size();
    }

    int image() {
        if (state == null) {
            return NONE;
        }
        kept = state.copy();
        return state.now;
    }

    int back() {
        if (kept == null) {
            return NONE;
        }
        state = kept.copy();
        acts.clear();
        return state.now;
    }

    int status(int what) {
        return what >= 0 && what < 5 ? refusals[what] : NONE;
    }

    int most(int what) {
        if (state == null) {
            return NONE;
        }
        int best = NONE;
        int value = NONE;
        switch (what) {
            case 0:
                for (int i = 0; i < state.persons.size(); i++) {
                    if (state.childrenOf(i).size() > value) {
                        best = i;
                        value = state.childrenOf(i).size();
                    }
                }
                return best;
            case 1:
                for (int i = 0; i < state.persons.size(); i++) {
                    Person p = state.persons.get(i);
                    if (p.death == null && (best == NONE || p.birth < state.persons.get(best).birth)) {
                        best = i;
                    }
                }
                return best;
            case 2: return (int) state.persons.stream().filter(p -> p.death == null).count();
            case 3: return (int) state.gifts.stream().filter(g -> isGood(g, g.e, all())).count();
            case 4: return (int) state.gifts.stream().filter(g -> state(state, g, state.period) == 2).count();
            case 5:
                for (int i = 0; i < state.gifts.size(); i++) {
                    if (state.gifts.get(i).facts > value) {
                        best = i;
                        value = state.gifts.get(i).facts;
                    }
                }
                return best;
            case 6:
                return state.persons.stream().filter(p -> p.death != null).mapToInt(p -> p.death - p.birth).max().orElse(NONE);
            default: return NONE;
        }
    }

    int size(int what) {
        return what == 0 ? tape.length() : what == 1 ? acts.size() : NONE;
    }
}
