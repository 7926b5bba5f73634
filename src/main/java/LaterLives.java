import java.util.Arrays;
import java.util.NoSuchElementException;

/** Gifts to people not yet born, tried against lives that count, and waited for year by year. */
public final class LaterLives {
    public static final int NONE = -1;
    public static final int HIDDEN = -1000000;

    /* What an E answers instead of a YEAR; the order (NEVER below NOT_YET below all YEARS) is used by and, or. */
    private static final int NOT_YET = -1;
    private static final int NEVER = -2;
    private static final int NO_MEMBER = -3;
    private static final int LIVING = HIDDEN;
    /* Far above every number of YEARS that a GIFT can add up. */
    private static final int EVER = 1000000;

    private static final int MOST_BYTES = 300;
    private static final int MOST_LIVES = 8;
    private static final int MOST_PERSONS = 24;
    private static final int MOST_GIFTS = 8;
    private static final int MOST_FACTS = 16;
    /* 16 Fs and the 15 joints between them. */
    private static final int MOST_STEPS = 31;
    private static final int MOST_NESTED = 5;
    private static final int MOST_EVENTS = 30;
    private static final int MOST_ACTS = 16;
    private static final int MOST_MEMBERS = 24;
    private static final int MOST_YEARS = 99;
    private static final int LAST_YEAR = 399;
    private static final int LEAST_PARENT = 13;
    private static final int FIRST_PERIOD = 21;
    private static final int FIRST_LIMIT = 99;
    private static final int MOST_AMOUNT = 1000000;

    private static final int TO_ONE = 0;
    private static final int TO_CHILDREN = 1;
    private static final int TO_GRANDCHILDREN = 2;

    private static final int YEARS = 0;
    private static final int DIES = 1;
    private static final int BORN = 2;
    private static final int REACHES = 3;
    private static final int LIFE_REACHES = 4;
    private static final int AFTER = 5;
    private static final int AND = 6;
    private static final int OR = 7;

    private static final int IN_YEAR = 0;
    private static final int DEATH = 1;
    private static final int BIRTH = 2;

    private static final int SORT_LIFE = 0;
    private static final int SORT_CHILD = 1;
    private static final int SORT_GRANDCHILD = 2;

    private static final int COURSE_EARLY = 256;
    private static final int COURSE_SOON = 1;
    private static final int COURSE_LATE = 60;
    private static final int COURSE_NOW = 400;
    private static final int COURSE_GENERATION = 30;

    private static final int NO_FAMILY = 0;
    private static final int NO_SUCH = 1;
    private static final int OUT_OF_BOUNDS = 2;
    private static final int DEAD = 3;
    private static final int NO_ROOM = 4;

    private final Tape tape;
    private final FamilyReader familyReader;
    private final GiftReader giftReader;
    private final StoryReader storyReader;
    private final Affairs affairs;
    private final Affairs kept;
    private final Acts acts;
    private final World aside;
    private final Waiting waiting;
    private final Trial trial;
    private final int[] refusals;
    private boolean founded;
    private boolean pictured;
    private boolean played;
    private int stoppedBy;

    public LaterLives() {
        tape = new Tape();
        familyReader = new FamilyReader(tape);
        giftReader = new GiftReader(tape);
        storyReader = new StoryReader(tape);
        affairs = new Affairs();
        kept = new Affairs();
        acts = new Acts();
        aside = new World();
        Reckoner reckoner = new Reckoner();
        waiting = new Waiting(reckoner);
        trial = new Trial(reckoner);
        refusals = new int[NO_ROOM + 1];
        stoppedBy = NONE;
    }

    // ---- the tape and what is told by it

    public int feed(int a, int b, int c, int d, int e) {
        int more = Tape.solidBytes(a) + Tape.solidBytes(b) + Tape.solidBytes(c)
                + Tape.solidBytes(d) + Tape.solidBytes(e);
        if (tape.length + more > MOST_BYTES) {
            return NONE;
        }
        tape.put(a);
        tape.put(b);
        tape.put(c);
        tape.put(d);
        tape.put(e);
        return tape.length;
    }

    public boolean end(int n) {
        if (n < 0 || n > tape.length) {
            return false;
        }
        tape.length = n;
        return true;
    }

    public int fault(int what) {
        if (what == 0) {
            return familyReader.read();
        }
        if (!founded || what < 0 || what > 2) {
            return -2;
        }
        return what == 1 ? giftReader.read() : storyReader.read();
    }

    public int family() {
        if (familyReader.read() != NONE) {
            return NONE;
        }
        familyReader.found(affairs);
        acts.clear();
        tape.length = 0;
        founded = true;
        pictured = false;
        played = false;
        return affairs.world.lives;
    }

    public int gift() {
        if (!founded) {
            return refused(NO_FAMILY);
        }
        if (giftReader.read() != NONE) {
            return refused(OUT_OF_BOUNDS);
        }
        if (affairs.giftCount >= MOST_GIFTS) {
            return refused(NO_ROOM);
        }
        acts.keep(affairs);
        affairs.addGift(new Gift(giftReader));
        tape.length = 0;
        return affairs.giftCount - 1;
    }

    public int drop(int gift) {
        if (!founded) {
            return refused(NO_FAMILY);
        }
        if (affairs.giftAt(gift) == null) {
            return refused(NO_SUCH);
        }
        acts.keep(affairs);
        affairs.removeGift(gift);
        return affairs.giftCount;
    }

    // ---- years, births, deaths

    public int pass(int n) {
        if (!founded) {
            return refused(NO_FAMILY);
        }
        if (n < 1 || n > 100 || affairs.world.now + n > LAST_YEAR) {
            return refused(OUT_OF_BOUNDS);
        }
        acts.keep(affairs);
        affairs.world.now += n;
        return affairs.world.now;
    }

    public int birth(int parent) {
        int reason = founded ? affairs.world.whyNoBirth(parent) : NO_FAMILY;
        if (reason != NONE) {
            return refused(reason);
        }
        acts.keep(affairs);
        affairs.world.add(affairs.world.now, parent);
        return affairs.world.persons - 1;
    }

    public int death(int person) {
        int reason = founded ? affairs.world.whyNoDeath(person) : NO_FAMILY;
        if (reason != NONE) {
            return refused(reason);
        }
        acts.keep(affairs);
        affairs.world.bury(person);
        return affairs.world.ageOf(person);
    }

    public int period(int n) {
        if (!founded) {
            return refused(NO_FAMILY);
        }
        if (n < 0 || n > MOST_YEARS) {
            return refused(OUT_OF_BOUNDS);
        }
        acts.keep(affairs);
        int before = affairs.years;
        affairs.years = n;
        return before;
    }

    public int limit(int n) {
        if (!founded) {
            return refused(NO_FAMILY);
        }
        if (n < LEAST_PARENT || n > MOST_YEARS) {
            return refused(OUT_OF_BOUNDS);
        }
        acts.keep(affairs);
        int before = affairs.oldest;
        affairs.oldest = n;
        return before;
    }

    public int rule(int what) {
        if (!founded) {
            return NONE;
        }
        World world = affairs.world;
        switch (what) {
            case 0: return world.now;
            case 1: return world.persons;
            case 2: return world.livingLives();
            case 3: return world.lastDeath();
            case 4: return affairs.years;
            case 5: return world.theEnd(affairs.years);
            case 6: return affairs.giftCount;
            case 7: return world.lives;
            case 8: return affairs.oldest;
            default: return NONE;
        }
    }

    public int person(int person, int what) throws NoSuchElementException {
        World world = affairs.world;
        if (!world.has(person) || what < 0 || what > 4) {
            throw new NoSuchElementException();
        }
        switch (what) {
            case 0: return world.bornIn(person);
            case 1: return world.diedIn(person);
            case 2: return world.parentOf(person);
            case 3: return world.ageOf(person);
            default: return world.childrenOf(person);
        }
    }

    public int told(int gift, int what) {
        Gift found = affairs.giftAt(gift);
        if (found == null) {
            return NONE;
        }
        switch (what) {
            case 0: return found.whom;
            case 1: return found.life;
            case 2: return found.facts;
            case 3: return found.parts;
            default: return NONE;
        }
    }

    public int written(int gift, int k) {
        Gift found = affairs.giftAt(gift);
        if (found == null) {
            return NONE;
        }
        if (k == NONE) {
            return found.text.length;
        }
        return k >= 0 && k < found.text.length ? found.text[k] : NONE;
    }

    // ---- wait and see

    public int member(int gift, int i) {
        if (!waitFor(gift)) {
            return NONE;
        }
        return i == NONE ? waiting.membersInAll() : waiting.memberAt(i);
    }

    public int vests(int gift, int person) {
        if (!affairs.world.has(person) || !waitFor(gift)) {
            return HIDDEN;
        }
        return waiting.yearOf(person);
    }

    public int closes(int gift, int what) {
        if (!waitFor(gift)) {
            return NONE;
        }
        if (what == 0) {
            return waiting.convenience;
        }
        return what == 1 ? waiting.nature : NONE;
    }

    public int state(int gift) {
        return waitFor(gift) ? waiting.standing() : NONE;
    }

    public int count(int gift, int what) {
        return waitFor(gift) ? waiting.tally(what) : NONE;
    }

    public int share(int gift, int person, int amount) {
        if (amount < 0 || amount > MOST_AMOUNT || !affairs.world.has(person) || !waitFor(gift)) {
            return NONE;
        }
        return waiting.partOf(person, amount);
    }

    // ---- stories

    public int story() {
        if (!founded || storyReader.read() != NONE) {
            return NONE;
        }
        int done = storyReader.play(affairs.world, aside);
        stoppedBy = done < storyReader.events ? done : NONE;
        tape.length = 0;
        played = true;
        return done;
    }

    public int storied(int what) {
        if (!played) {
            return NONE;
        }
        switch (what) {
            case 0: return aside.now;
            case 1: return aside.persons;
            case 2: return stoppedBy;
            case 3: return aside.theEnd(affairs.years);
            case 4: return aside.livingLives();
            default: return NONE;
        }
    }

    public int storyState(int gift) {
        return waitAside(gift) ? waiting.standing() : NONE;
    }

    public int storyVests(int gift, int person) {
        if (!aside.has(person) || !waitAside(gift)) {
            return HIDDEN;
        }
        return waiting.yearOf(person);
    }

    // ---- the test

    public int good(int gift) {
        if (!tryGift(gift)) {
            return NONE;
        }
        return trial.passes(trial.allLives()) ? 1 : 0;
    }

    public int behind(int gift, int sort, int life, int lives) {
        if (!tryMember(gift, sort, life) || !trial.isSet(lives)) {
            return HIDDEN;
        }
        if (!trial.belongs(sort, life)) {
            return -2;
        }
        int most = trial.behindOf(sort, life, lives);
        return most >= EVER ? NONE : most;
    }

    public int soonest(int gift, int sort, int life) {
        if (!tryMember(gift, sort, life)) {
            return HIDDEN;
        }
        return trial.belongs(sort, life) ? trial.soonestOf(sort, life) : NONE;
    }

    public int carriers(int gift) {
        return tryGift(gift) ? trial.fewestLives() : NONE;
    }

    public int ways(int gift) {
        Gift found = affairs.giftAt(gift);
        if (found == null) {
            return NONE;
        }
        int bits = 0;
        for (int part = 0; part < found.parts; part++) {
            trial.take(affairs, found, found.partEnd(part), MOST_YEARS);
            if (trial.passes(trial.allLives())) {
                bits |= 1 << part;
            }
        }
        return bits;
    }

    public int lowered(int gift) {
        Gift found = affairs.giftAt(gift);
        if (found == null) {
            return NONE;
        }
        for (int n = MOST_YEARS; n >= 0; n--) {
            trial.take(affairs, found, found.steps, n);
            if (trial.passes(trial.allLives())) {
                return n;
            }
        }
        return NONE;
    }

    public int witness(int gift) {
        return tryGift(gift) ? trial.firstLateCourse() : NONE;
    }

    public int course(int gift, int sort, int life, int course) {
        if (!tryMember(gift, sort, life) || !trial.isCourse(course)) {
            return HIDDEN;
        }
        return trial.belongs(sort, life) ? trial.yearByCourse(sort, life, course) : NO_MEMBER;
    }

    public int lates(int gift) {
        return tryGift(gift) ? trial.lateCourses() : NONE;
    }

    public int worst(int gift, int what) {
        if (what < 0 || what > 2 || !tryGift(gift)) {
            return HIDDEN;
        }
        return trial.tellWorst(what);
    }

    public int firstBad() {
        for (int i = 0; i < affairs.giftCount; i++) {
            if (tryGift(i) && !trial.passes(trial.allLives())) {
                return i;
            }
        }
        return NONE;
    }

    // ---- acts

    public int undo() {
        return acts.takeBack(affairs) ? acts.known : NONE;
    }

    public int image() {
        if (!founded) {
            return NONE;
        }
        kept.copyFrom(affairs);
        pictured = true;
        return affairs.world.now;
    }

    public int back() {
        if (!pictured) {
            return NONE;
        }
        affairs.copyFrom(kept);
        acts.clear();
        return affairs.world.now;
    }

    public int status(int what) {
        return what >= 0 && what < refusals.length ? refusals[what] : NONE;
    }

    public int most(int what) {
        if (!founded) {
            return NONE;
        }
        switch (what) {
            case 0: return affairs.world.mostChildren();
            case 1: return affairs.world.oldestLiving();
            case 2: return affairs.world.livingPersons();
            case 3: return goodGifts();
            case 4: return lateGifts();
            case 5: return affairs.longestGift();
            case 6: return affairs.world.greatestAge();
            default: return NONE;
        }
    }

    public int size(int what) {
        if (what == 0) {
            return tape.length;
        }
        return what == 1 ? acts.known : NONE;
    }

    // ---- what several calls need

    private int refused(int reason) {
        if (reason >= 0 && reason < refusals.length) {
            refusals[reason]++;
        }
        return NONE;
    }

    private boolean waitFor(int gift) {
        Gift found = affairs.giftAt(gift);
        if (found == null) {
            return false;
        }
        waiting.look(affairs.world, found, affairs.years);
        return true;
    }

    private boolean waitAside(int gift) {
        Gift found = affairs.giftAt(gift);
        if (found == null || !played) {
            return false;
        }
        waiting.look(aside, found, affairs.years);
        return true;
    }

    private boolean tryGift(int gift) {
        Gift found = affairs.giftAt(gift);
        if (found == null) {
            return false;
        }
        trial.take(affairs, found, found.steps, MOST_YEARS);
        return true;
    }

    private boolean tryMember(int gift, int sort, int life) {
        boolean known = sort >= SORT_LIFE && sort <= SORT_GRANDCHILD && life >= 0 && life < affairs.world.lives;
        return known && tryGift(gift);
    }

    private int goodGifts() {
        int found = 0;
        for (int i = 0; i < affairs.giftCount; i++) {
            if (tryGift(i) && trial.passes(trial.allLives())) {
                found++;
            }
        }
        return found;
    }

    private int lateGifts() {
        int found = 0;
        for (int i = 0; i < affairs.giftCount; i++) {
            if (waitFor(i) && waiting.standing() == 2) {
                found++;
            }
        }
        return found;
    }

    /** The bytes fed so far; they are read part by part, with the NAMES of the LIVES. */
    private static final class Tape {
        static final int OVER = 0;
        static final int WORD = 1;
        static final int NUMBER = 2;
        static final int SIGN = 3;

        final int[] bytes = new int[MOST_BYTES];
        final int[] letters = new int[MOST_LIVES];
        int length;
        int lives;
        int kind;
        int begin;
        int next;
        int value;

        static int solidBytes(int word) {
            int solid = 0;
            for (int shift = 24; shift >= 0; shift -= 8) {
                if (((word >>> shift) & 255) != 0) {
                    solid++;
                }
            }
            return solid;
        }

        void put(int word) {
            for (int shift = 24; shift >= 0; shift -= 8) {
                int piece = (word >>> shift) & 255;
                if (piece != 0 && length >= 0 && length < bytes.length) {
                    bytes[length] = piece;
                    length++;
                }
            }
        }

        /** The byte at an index; 0, which no fed byte is, where there is none. */
        int at(int index) {
            return index >= 0 && index < length && index < bytes.length ? bytes[index] : 0;
        }

        void restart() {
            next = 0;
            advance();
        }

        void advance() {
            begin = pastBlanks(next);
            value = NONE;
            int first = at(begin);
            if (first == 0) {
                kind = OVER;
                next = begin;
            } else if (isLetter(first)) {
                kind = WORD;
                next = pastLetters(begin);
            } else if (isDigit(first)) {
                kind = NUMBER;
                next = pastDigits(begin);
                value = next - begin > 3 ? NONE : valueOf(begin, next);
            } else {
                kind = SIGN;
                next = begin + 1;
            }
        }

        private int pastBlanks(int from) {
            int past = from;
            while (past < length && at(past) == ' ') {
                past++;
            }
            return past;
        }

        private int pastLetters(int from) {
            int past = from;
            while (past < length && isLetter(at(past))) {
                past++;
            }
            return past;
        }

        private int pastDigits(int from) {
            int past = from;
            while (past < length && isDigit(at(past))) {
                past++;
            }
            return past;
        }

        private int valueOf(int from, int to) {
            int sum = 0;
            for (int i = from; i < to; i++) {
                sum = sum * 10 + at(i) - '0';
            }
            return sum;
        }

        private static boolean isLetter(int piece) {
            return piece >= 'a' && piece <= 'z';
        }

        private static boolean isDigit(int piece) {
            return piece >= '0' && piece <= '9';
        }

        boolean isOver() {
            return kind == OVER;
        }

        boolean isSign(int sign) {
            return kind == SIGN && at(begin) == sign;
        }

        boolean isNumber(int least, int greatest) {
            return kind == NUMBER && value >= least && value <= greatest;
        }

        boolean isWord(String word) {
            if (kind != WORD || next - begin != word.length()) {
                return false;
            }
            for (int i = 0; i < word.length(); i++) {
                if (at(begin + i) != word.charAt(i)) {
                    return false;
                }
            }
            return true;
        }

        /** The letter of a word of one letter; 0 for all else. */
        int letter() {
            return kind == WORD && next - begin == 1 ? at(begin) : 0;
        }

        void learn(int[] names, int many) {
            lives = 0;
            for (int i = 0; i < many && i < names.length && i < letters.length; i++) {
                letters[i] = names[i];
                lives++;
            }
        }

        /** The LIFE whose NAME stands here; NONE, if none's does. */
        int lifeNamed() {
            int name = letter();
            for (int i = 0; i < lives && i < letters.length; i++) {
                if (letters[i] == name) {
                    return i;
                }
            }
            return NONE;
        }
    }

    /** Reads the TAPE as a FAMILY. */
    private static final class FamilyReader {
        final Tape tape;
        final int[] letters = new int[MOST_LIVES];
        final int[] ages = new int[MOST_LIVES];
        final int[] parents = new int[MOST_LIVES];
        int many;

        FamilyReader(Tape tape) {
            this.tape = tape;
        }

        /** The FAULT, or NONE. */
        int read() {
            many = 0;
            tape.restart();
            for (int piece = 0; piece <= MOST_LIVES; piece++) {
                if (!readPiece()) {
                    return tape.begin;
                }
                if (tape.isOver()) {
                    return NONE;
                }
                if (!tape.isSign(';')) {
                    return tape.begin;
                }
                tape.advance();
            }
            return tape.begin;
        }

        private boolean readPiece() {
            int name = tape.letter();
            if (many >= MOST_LIVES || name < 'a' || name > 'h' || indexOf(name) != NONE) {
                return false;
            }
            tape.advance();
            if (!tape.isNumber(0, MOST_YEARS)) {
                return false;
            }
            int age = tape.value;
            int parent = NONE;
            tape.advance();
            if (tape.isWord("of")) {
                tape.advance();
                parent = indexOf(tape.letter());
                if (!isParent(parent, age)) {
                    return false;
                }
                tape.advance();
            }
            note(name, age, parent);
            return true;
        }

        private int indexOf(int name) {
            for (int i = 0; i < many && i < letters.length; i++) {
                if (letters[i] == name) {
                    return i;
                }
            }
            return NONE;
        }

        private boolean isParent(int parent, int age) {
            return parent >= 0 && parent < many && parent < ages.length && ages[parent] - age >= LEAST_PARENT;
        }

        private void note(int name, int age, int parent) {
            if (many >= 0 && many < letters.length && many < ages.length && many < parents.length) {
                letters[many] = name;
                ages[many] = age;
                parents[many] = parent;
                many++;
            }
        }

        void found(Affairs affairs) {
            affairs.clear();
            for (int i = 0; i < many && i < ages.length && i < parents.length; i++) {
                affairs.world.addLife(ages[i], parents[i]);
            }
            tape.learn(letters, many);
        }
    }

    /** Reads the TAPE as a GIFT: its steps are noted so that what a step joins stands ahead of it. */
    private static final class GiftReader {
        final Tape tape;
        final int[] kinds = new int[MOST_STEPS];
        final int[] numbers = new int[MOST_STEPS];
        final int[] lives = new int[MOST_STEPS];
        final int[] firsts = new int[MOST_STEPS];
        final int[] partEnds = new int[MOST_FACTS];
        final int[] text = new int[2 * MOST_BYTES];
        int whom;
        int life;
        int facts;
        int steps;
        int parts;
        int length;

        GiftReader(Tape tape) {
            this.tape = tape;
        }

        /** The FAULT, or NONE. */
        int read() {
            facts = 0;
            steps = 0;
            parts = 0;
            length = 0;
            tape.restart();
            boolean right = readWord("to") && readWhom() && readWord("when") && readAny(0) && tape.isOver();
            return right ? NONE : tape.begin;
        }

        private boolean readWhom() {
            whom = TO_ONE;
            if (readWord("children")) {
                whom = TO_CHILDREN;
            } else if (readWord("grandchildren")) {
                whom = TO_GRANDCHILDREN;
            }
            life = tape.lifeNamed();
            return readLife();
        }

        /** T { or T }; at depth 0 the Ts are the parts of which WAYS tell. */
        private boolean readAny(int depth) {
            if (depth > MOST_NESTED || !readAll(depth)) {
                return false;
            }
            notePart(depth);
            for (int i = 0; i < MOST_BYTES && tape.isWord("or"); i++) {
                take();
                int first = steps - 1;
                if (!readAll(depth)) {
                    return false;
                }
                notePart(depth);
                noteJoint(OR, first);
            }
            return true;
        }

        private boolean readAll(int depth) {
            if (!readFact(depth)) {
                return false;
            }
            for (int i = 0; i < MOST_BYTES && tape.isWord("and"); i++) {
                take();
                int first = steps - 1;
                if (!readFact(depth)) {
                    return false;
                }
                noteJoint(AND, first);
            }
            return true;
        }

        private boolean readFact(int depth) {
            if (tape.isSign('(')) {
                return readGroup(depth);
            }
            if (facts >= MOST_FACTS) {
                return false;
            }
            facts++;
            if (tape.isWord("after")) {
                return readAfter(depth);
            }
            if (readWord("years")) {
                return readNumber(YEARS, NONE);
            }
            if (readWord("reaches")) {
                return readNumber(REACHES, NONE);
            }
            if (readWord("born")) {
                noteStep(BORN, 0, NONE);
                return true;
            }
            boolean death = readWord("dies");
            int named = tape.lifeNamed();
            if (!readLife()) {
                return false;
            }
            if (death) {
                noteStep(DIES, 0, named);
                return true;
            }
            return readWord("reaches") && readNumber(LIFE_REACHES, named);
        }

        private boolean readGroup(int depth) {
            if (depth >= MOST_NESTED) {
                return false;
            }
            take();
            if (!readAny(depth + 1) || !tape.isSign(')')) {
                return false;
            }
            take();
            return true;
        }

        private boolean readAfter(int depth) {
            if (depth >= MOST_NESTED) {
                return false;
            }
            take();
            int years = tape.value;
            if (!tape.isNumber(0, MOST_YEARS)) {
                return false;
            }
            take();
            if (!readFact(depth + 1)) {
                return false;
            }
            noteStep(AFTER, years, NONE);
            return true;
        }

        private boolean readWord(String word) {
            if (!tape.isWord(word)) {
                return false;
            }
            take();
            return true;
        }

        private boolean readLife() {
            if (tape.lifeNamed() == NONE) {
                return false;
            }
            take();
            return true;
        }

        private boolean readNumber(int kind, int named) {
            if (!tape.isNumber(0, MOST_YEARS)) {
                return false;
            }
            noteStep(kind, tape.value, named);
            take();
            return true;
        }

        private void noteStep(int kind, int number, int named) {
            if (steps >= 0 && steps < MOST_STEPS) {
                kinds[steps] = kind;
                numbers[steps] = number;
                lives[steps] = named;
                firsts[steps] = NONE;
                steps++;
            }
        }

        /* What it joins: the step told here, and the one right ahead of the joint. */
        private void noteJoint(int kind, int first) {
            if (steps >= 0 && steps < MOST_STEPS) {
                firsts[steps] = first;
                kinds[steps] = kind;
                numbers[steps] = 0;
                lives[steps] = NONE;
                steps++;
            }
        }

        private void notePart(int depth) {
            if (depth == 0 && parts >= 0 && parts < partEnds.length) {
                partEnds[parts] = steps;
                parts++;
            }
        }

        /* WRITTEN is the parts of the TEXT as they stand, one blank between: no need to write it from the steps. */
        private void take() {
            if (length > 0) {
                write(' ');
            }
            if (tape.kind == Tape.NUMBER) {
                writeNumber(tape.value);
            } else {
                for (int i = tape.begin; i < tape.next; i++) {
                    write(tape.at(i));
                }
            }
            tape.advance();
        }

        private void writeNumber(int number) {
            if (number >= 10) {
                write('0' + number / 10);
            }
            write('0' + number % 10);
        }

        private void write(int piece) {
            if (length >= 0 && length < text.length) {
                text[length] = piece;
                length++;
            }
        }
    }

    /** A GIFT as it was told; it never changes, so IMAGE and ACTS may share it. */
    private static final class Gift {
        final int whom;
        final int life;
        final int facts;
        final int steps;
        final int parts;
        final int[] kinds;
        final int[] numbers;
        final int[] lives;
        final int[] firsts;
        final int[] partEnds;
        final int[] text;

        Gift(GiftReader reader) {
            whom = reader.whom;
            life = reader.life;
            facts = reader.facts;
            steps = Math.max(0, reader.steps);
            parts = Math.max(0, reader.parts);
            kinds = Arrays.copyOf(reader.kinds, steps);
            numbers = Arrays.copyOf(reader.numbers, steps);
            lives = Arrays.copyOf(reader.lives, steps);
            firsts = Arrays.copyOf(reader.firsts, steps);
            partEnds = Arrays.copyOf(reader.partEnds, parts);
            text = Arrays.copyOf(reader.text, Math.max(0, reader.length));
        }

        boolean hasStep(int i) {
            return i >= 0 && i < kinds.length && i < numbers.length && i < lives.length && i < firsts.length;
        }

        int partEnd(int part) {
            return part >= 0 && part < partEnds.length ? partEnds[part] : 0;
        }
    }

    /** Reads the TAPE as a STORY, and plays it. */
    private static final class StoryReader {
        final Tape tape;
        final int[] kinds = new int[MOST_EVENTS];
        final int[] numbers = new int[MOST_EVENTS];
        int events;
        int year;

        StoryReader(Tape tape) {
            this.tape = tape;
        }

        /** The FAULT, or NONE. */
        int read() {
            events = 0;
            year = 0;
            tape.restart();
            for (int i = 0; i <= MOST_EVENTS; i++) {
                if (!readEvent()) {
                    return tape.begin;
                }
                if (tape.isOver()) {
                    return NONE;
                }
                if (!tape.isSign(';')) {
                    return tape.begin;
                }
                tape.advance();
            }
            return tape.begin;
        }

        private boolean readEvent() {
            if (events >= MOST_EVENTS) {
                return false;
            }
            if (tape.isWord("in")) {
                tape.advance();
                return readYear();
            }
            int who = tape.lifeNamed();
            if (tape.isWord("person")) {
                tape.advance();
                who = tape.isNumber(0, MOST_PERSONS - 1) ? tape.value : NONE;
            }
            if (who == NONE) {
                return false;
            }
            tape.advance();
            return readDeed(who);
        }

        private boolean readYear() {
            if (!tape.isNumber(year, LAST_YEAR)) {
                return false;
            }
            year = tape.value;
            note(IN_YEAR, year);
            tape.advance();
            return true;
        }

        private boolean readDeed(int who) {
            boolean death = tape.isWord("dies");
            if (!death && !tape.isWord("bears")) {
                return false;
            }
            note(death ? DEATH : BIRTH, who);
            tape.advance();
            return true;
        }

        private void note(int kind, int number) {
            if (events >= 0 && events < kinds.length && events < numbers.length) {
                kinds[events] = kind;
                numbers[events] = number;
                events++;
            }
        }

        /** How many EVENTS were done ahead of the first that can't be. */
        int play(World family, World aside) {
            aside.startOf(family);
            for (int i = 0; i < events && i < kinds.length && i < numbers.length; i++) {
                if (!happen(aside, kinds[i], numbers[i])) {
                    return i;
                }
            }
            return events;
        }

        private boolean happen(World aside, int kind, int number) {
            if (kind == IN_YEAR) {
                aside.now = number;
                return true;
            }
            if (kind == DEATH) {
                if (aside.whyNoDeath(number) != NONE) {
                    return false;
                }
                aside.bury(number);
                return true;
            }
            if (aside.whyNoBirth(number) != NONE) {
                return false;
            }
            aside.add(aside.now, number);
            return true;
        }
    }

    /** PERSONS and the YEAR it is. */
    private static final class World {
        final int[] births = new int[MOST_PERSONS];
        final int[] deaths = new int[MOST_PERSONS];
        final int[] parents = new int[MOST_PERSONS];
        int lives;
        int persons;
        int now;

        void clear() {
            lives = 0;
            persons = 0;
            now = 0;
        }

        void add(int year, int parent) {
            if (persons >= 0 && persons < MOST_PERSONS) {
                births[persons] = year;
                deaths[persons] = LIVING;
                parents[persons] = parent;
                persons++;
            }
        }

        void addLife(int age, int parent) {
            add(-age, parent);
            lives = persons;
        }

        /** The LIVES alone as they were in YEAR 0. */
        void startOf(World other) {
            clear();
            for (int i = 0; i < other.lives; i++) {
                addLife(-other.bornIn(i), other.parentOf(i));
            }
        }

        void copyFrom(World other) {
            clear();
            for (int i = 0; i < other.persons; i++) {
                add(other.bornIn(i), other.parentOf(i));
                setDeath(i, other.diedIn(i));
            }
            lives = other.lives;
            now = other.now;
        }

        boolean has(int person) {
            return person >= 0 && person < persons && person < MOST_PERSONS;
        }

        int bornIn(int person) {
            return person >= 0 && person < persons && person < births.length ? births[person] : 0;
        }

        int diedIn(int person) {
            return person >= 0 && person < persons && person < deaths.length ? deaths[person] : LIVING;
        }

        int parentOf(int person) {
            return person >= 0 && person < persons && person < parents.length ? parents[person] : NONE;
        }

        void setDeath(int person, int year) {
            if (has(person)) {
                deaths[person] = year;
            }
        }

        void bury(int person) {
            setDeath(person, now);
        }

        boolean isAlive(int person) {
            return person >= 0 && person < persons && person < deaths.length && deaths[person] == LIVING;
        }

        int ageOf(int person) {
            int until = isAlive(person) ? now : diedIn(person);
            return until - bornIn(person);
        }

        /** By how many YEARS behind YEAR 0 a PERSON comes to an age. */
        int yearsTo(int person, int age) {
            return Math.max(0, bornIn(person) + age);
        }

        int childrenOf(int person) {
            int found = 0;
            for (int i = 0; i < persons; i++) {
                if (parentOf(i) == person) {
                    found++;
                }
            }
            return found;
        }

        boolean inClass(Gift gift, int person) {
            switch (gift.whom) {
                case TO_CHILDREN: return parentOf(person) == gift.life;
                case TO_GRANDCHILDREN: return parentOf(parentOf(person)) == gift.life;
                default: return person == gift.life;
            }
        }

        /** Why none can be born of this PERSON now, as STATUS counts it; NONE, if one can. */
        int whyNoBirth(int parent) {
            if (!has(parent)) {
                return NO_SUCH;
            }
            if (now == 0 || now - bornIn(parent) < LEAST_PARENT) {
                return OUT_OF_BOUNDS;
            }
            if (!isAlive(parent) && diedIn(parent) != now) {
                return DEAD;
            }
            return persons >= MOST_PERSONS ? NO_ROOM : NONE;
        }

        int whyNoDeath(int person) {
            if (!has(person)) {
                return NO_SUCH;
            }
            return isAlive(person) ? NONE : DEAD;
        }

        int livingLives() {
            int bits = 0;
            for (int i = 0; i < lives; i++) {
                if (isAlive(i)) {
                    bits |= 1 << i;
                }
            }
            return bits;
        }

        /** The YEAR in which the last LIFE died; NONE, as long as one lives. */
        int lastDeath() {
            int last = NONE;
            for (int i = 0; i < lives; i++) {
                if (isAlive(i)) {
                    return NONE;
                }
                last = Math.max(last, diedIn(i));
            }
            return last;
        }

        int theEnd(int years) {
            int last = lastDeath();
            return last == NONE ? NONE : last + years;
        }

        /** The YEAR from which nobody can come into the CLASS of children, grandchildren; NONE, as long as one can. */
        int natureOf(Gift gift) {
            if (gift.whom == TO_ONE || isAlive(gift.life)) {
                return NONE;
            }
            int last = diedIn(gift.life);
            for (int i = 0; gift.whom == TO_GRANDCHILDREN && i < persons; i++) {
                if (parentOf(i) == gift.life) {
                    if (isAlive(i)) {
                        return NONE;
                    }
                    last = Math.max(last, diedIn(i));
                }
            }
            return last;
        }

        int mostChildren() {
            int best = 0;
            for (int i = 1; i < persons; i++) {
                if (childrenOf(i) > childrenOf(best)) {
                    best = i;
                }
            }
            return best;
        }

        int oldestLiving() {
            int oldest = NONE;
            for (int i = 0; i < persons; i++) {
                if (isAlive(i) && (oldest == NONE || bornIn(i) < bornIn(oldest))) {
                    oldest = i;
                }
            }
            return oldest;
        }

        int livingPersons() {
            int found = 0;
            for (int i = 0; i < persons; i++) {
                if (isAlive(i)) {
                    found++;
                }
            }
            return found;
        }

        int greatestAge() {
            int greatest = NONE;
            for (int i = 0; i < persons; i++) {
                if (!isAlive(i)) {
                    greatest = Math.max(greatest, ageOf(i));
                }
            }
            return greatest;
        }
    }

    /** All that ACTS change and an IMAGE keeps. */
    private static final class Affairs {
        final World world = new World();
        final Gift[] gifts = new Gift[MOST_GIFTS];
        int giftCount;
        int years;
        int oldest;

        void clear() {
            world.clear();
            giftCount = 0;
            years = FIRST_PERIOD;
            oldest = FIRST_LIMIT;
        }

        void copyFrom(Affairs other) {
            world.copyFrom(other.world);
            giftCount = 0;
            for (int i = 0; i < other.giftCount; i++) {
                addGift(other.giftAt(i));
            }
            years = other.years;
            oldest = other.oldest;
        }

        Gift giftAt(int gift) {
            return gift >= 0 && gift < giftCount && gift < gifts.length ? gifts[gift] : null;
        }

        void addGift(Gift gift) {
            if (giftCount >= 0 && giftCount < gifts.length) {
                gifts[giftCount] = gift;
                giftCount++;
            }
        }

        void removeGift(int gift) {
            if (giftAt(gift) == null) {
                return;
            }
            for (int i = gift; i + 1 < giftCount && i + 1 < gifts.length; i++) {
                gifts[i] = gifts[i + 1];
            }
            giftCount--;
        }

        int longestGift() {
            int best = NONE;
            int most = NONE;
            for (int i = 0; i < giftCount; i++) {
                Gift one = giftAt(i);
                if (one != null && one.facts > most) {
                    best = i;
                    most = one.facts;
                }
            }
            return best;
        }
    }

    /** What the AFFAIRS were ahead of the latest ACTS. */
    private static final class Acts {
        final Affairs[] before = new Affairs[MOST_ACTS];
        int next;
        int known;

        Acts() {
            for (int i = 0; i < before.length; i++) {
                before[i] = new Affairs();
            }
        }

        void clear() {
            known = 0;
        }

        void keep(Affairs affairs) {
            Affairs place = placeAt(next);
            if (place == null) {
                return;
            }
            place.copyFrom(affairs);
            next = next + 1 < MOST_ACTS ? next + 1 : 0;
            known = Math.min(known + 1, MOST_ACTS);
        }

        boolean takeBack(Affairs affairs) {
            int latest = next > 0 ? next - 1 : MOST_ACTS - 1;
            Affairs place = placeAt(latest);
            if (known <= 0 || place == null) {
                return false;
            }
            affairs.copyFrom(place);
            next = latest;
            known--;
            return true;
        }

        private Affairs placeAt(int index) {
            return index >= 0 && index < before.length ? before[index] : null;
        }
    }

    /** Reckons an E step by step; the answer of its last step is its own. */
    private static final class Reckoner {
        final int[] kinds = new int[MOST_STEPS];
        final int[] numbers = new int[MOST_STEPS];
        final int[] lives = new int[MOST_STEPS];
        final int[] firsts = new int[MOST_STEPS];
        /* By step: a YEAR, or H; and S beside H. */
        final int[] answers = new int[MOST_STEPS];
        final int[] sures = new int[MOST_STEPS];
        int steps;

        /* The last step answers for what it joins alone, so a T needs no beginning: what is ahead of it is idle. */
        void choose(Gift gift, int end, int n) {
            steps = 0;
            for (int i = 0; i < end && i < MOST_STEPS && gift.hasStep(i); i++) {
                boolean age = gift.kinds[i] == REACHES || gift.kinds[i] == LIFE_REACHES;
                kinds[i] = gift.kinds[i];
                numbers[i] = age ? Math.min(n, gift.numbers[i]) : gift.numbers[i];
                lives[i] = gift.lives[i];
                firsts[i] = gift.firsts[i];
                steps++;
            }
        }

        private static int answerOf(int[] row, int step) {
            return step >= 0 && step < row.length ? row[step] : 0;
        }

        // ---- as things are

        /** The YEAR in which a member VESTS, NOT_YET or NEVER. */
        int vestingYear(World world, int birth, int death) {
            int year = NOT_YET;
            for (int i = 0; i < steps && i < MOST_STEPS; i++) {
                int first = answerOf(answers, firsts[i]);
                switch (kinds[i]) {
                    case YEARS:
                        year = asOf(world.now, numbers[i]);
                        break;
                    case DIES:
                        year = world.isAlive(lives[i]) ? NOT_YET : world.diedIn(lives[i]);
                        break;
                    case BORN:
                        year = Math.max(0, birth);
                        break;
                    case REACHES:
                        year = reached(world.now, birth, death, numbers[i]);
                        break;
                    case LIFE_REACHES:
                        year = reached(world.now, world.bornIn(lives[i]), world.diedIn(lives[i]), numbers[i]);
                        break;
                    case AFTER:
                        year = year < 0 ? year : asOf(world.now, year + numbers[i]);
                        break;
                    case AND:
                        year = later(first, year);
                        break;
                    default:
                        year = earlier(first, year);
                        break;
                }
                answers[i] = year;
            }
            return year < 0 ? year : Math.max(year, birth);
        }

        private static int asOf(int now, int year) {
            return year > now ? NOT_YET : year;
        }

        private static int reached(int now, int birth, int death, int n) {
            int year = Math.max(0, birth + n);
            if (death != LIVING && death < year) {
                return NEVER;
            }
            return asOf(now, year);
        }

        /* NEVER is less than NOT_YET, and this less than each YEAR. */
        private static int later(int first, int last) {
            return first < 0 || last < 0 ? Math.min(first, last) : Math.max(first, last);
        }

        private static int earlier(int first, int last) {
            return first < 0 || last < 0 ? Math.max(first, last) : Math.min(first, last);
        }

        // ---- in THE TEST

        /** BEHIND of a member; EVER, if it is that. */
        int yearsBehind(World start, int sort, int life, int set) {
            int born = bornBehind(sort, life, set);
            int most = EVER;
            int sure = EVER;
            for (int i = 0; i < steps && i < MOST_STEPS; i++) {
                int n = numbers[i];
                int firstMost = answerOf(answers, firsts[i]);
                int firstSure = answerOf(sures, firsts[i]);
                switch (kinds[i]) {
                    case YEARS:
                        most = n;
                        sure = n;
                        break;
                    case DIES:
                        most = inSet(set, lives[i]) ? 0 : EVER;
                        sure = most;
                        break;
                    case BORN:
                        most = born;
                        sure = born;
                        break;
                    case REACHES:
                        most = sort == SORT_LIFE ? ageBehind(start, life, n, set) : more(born, n);
                        sure = sort == SORT_LIFE ? ageSure(start, life, n) : laterAgeSure(born, n);
                        break;
                    case LIFE_REACHES:
                        most = ageBehind(start, lives[i], n, set);
                        sure = ageSure(start, lives[i], n);
                        break;
                    case AFTER:
                        most = more(most, n);
                        sure = more(sure, n);
                        break;
                    case AND:
                        most = Math.max(firstMost, most);
                        sure = Math.max(firstSure, sure);
                        break;
                    default:
                        sure = Math.min(firstSure, sure);
                        most = Math.min(Math.max(firstMost, most), sure);
                        break;
                }
                answers[i] = most;
                sures[i] = sure;
            }
            return Math.max(most, born);
        }

        private static int bornBehind(int sort, int life, int set) {
            if (sort == SORT_LIFE) {
                return 0;
            }
            return sort == SORT_CHILD && inSet(set, life) ? 0 : EVER;
        }

        private static int ageBehind(World start, int life, int n, int set) {
            return inSet(set, life) ? 0 : start.yearsTo(life, n);
        }

        private static int ageSure(World start, int life, int n) {
            return start.yearsTo(life, n) == 0 ? 0 : EVER;
        }

        private static int laterAgeSure(int born, int n) {
            return n == 0 ? born : EVER;
        }

        private static boolean inSet(int set, int life) {
            return life >= 0 && life < MOST_LIVES && ((set >> life) & 1) == 1;
        }

        private static int more(int years, int n) {
            return years >= EVER ? EVER : years + n;
        }

        // ---- SOONEST

        int soonestYear(World start, int sort, int life) {
            int born = bornSoonest(sort);
            int year = 0;
            for (int i = 0; i < steps && i < MOST_STEPS; i++) {
                int n = numbers[i];
                int first = answerOf(answers, firsts[i]);
                switch (kinds[i]) {
                    case YEARS:
                        year = n;
                        break;
                    case DIES:
                        year = 0;
                        break;
                    case BORN:
                        year = born;
                        break;
                    case REACHES:
                        year = sort == SORT_LIFE ? start.yearsTo(life, n) : born + n;
                        break;
                    case LIFE_REACHES:
                        year = start.yearsTo(lives[i], n);
                        break;
                    case AFTER:
                        year = year + n;
                        break;
                    case AND:
                        year = Math.max(first, year);
                        break;
                    default:
                        year = Math.min(first, year);
                        break;
                }
                answers[i] = year;
            }
            return Math.max(year, born);
        }

        private static int bornSoonest(int sort) {
            if (sort == SORT_LIFE) {
                return 0;
            }
            return sort == SORT_CHILD ? 1 : LEAST_PARENT + 1;
        }
    }

    /** Wait and see: a GIFT as things are. */
    private static final class Waiting {
        final Reckoner reckoner;
        /* By PERSON: when it VESTS, NOT_YET, NEVER or NO_MEMBER. */
        final int[] years = new int[MOST_PERSONS];
        int persons;
        int now;
        int theEnd;
        int convenience;
        int nature;
        boolean single;

        Waiting(Reckoner reckoner) {
            this.reckoner = reckoner;
        }

        void look(World world, Gift gift, int after) {
            persons = Math.min(world.persons, MOST_PERSONS);
            now = world.now;
            theEnd = world.theEnd(after);
            single = gift.whom == TO_ONE;
            nature = world.natureOf(gift);
            reckoner.choose(gift, gift.steps, MOST_YEARS);
            for (int i = 0; i < persons && i < MOST_PERSONS; i++) {
                boolean inside = world.inClass(gift, i);
                years[i] = inside ? reckoner.vestingYear(world, world.bornIn(i), world.diedIn(i)) : NO_MEMBER;
            }
            close(world);
        }

        /* None of those left out can have VESTED ahead of its birth, so the first YEAR stays the first. */
        private void close(World world) {
            convenience = single ? NONE : firstYear();
            for (int i = 0; convenience != NONE && i < persons && i < MOST_PERSONS; i++) {
                if (world.bornIn(i) > convenience) {
                    years[i] = NO_MEMBER;
                }
            }
        }

        private int firstYear() {
            int first = NONE;
            for (int i = 0; i < persons && i < MOST_PERSONS; i++) {
                if (years[i] >= 0 && (first == NONE || years[i] < first)) {
                    first = years[i];
                }
            }
            return first;
        }

        int yearOf(int person) {
            return person >= 0 && person < persons && person < MOST_PERSONS ? years[person] : NO_MEMBER;
        }

        int membersInAll() {
            int found = 0;
            for (int i = 0; i < persons; i++) {
                if (yearOf(i) != NO_MEMBER) {
                    found++;
                }
            }
            return found;
        }

        int memberAt(int index) {
            int found = 0;
            for (int i = 0; i < persons; i++) {
                if (yearOf(i) != NO_MEMBER) {
                    if (found == index) {
                        return i;
                    }
                    found++;
                }
            }
            return NONE;
        }

        /** As count() numbers them; NONE, where it numbers none. */
        int tally(int what) {
            if (what < 0 || what > 3) {
                return NONE;
            }
            int found = 0;
            for (int i = 0; i < persons; i++) {
                if (kindOf(yearOf(i)) == what) {
                    found++;
                }
            }
            return found;
        }

        private int kindOf(int year) {
            if (year >= 0) {
                return theEnd != NONE && year > theEnd ? 1 : 0;
            }
            if (year == NEVER) {
                return 2;
            }
            return year == NOT_YET ? 3 : NONE;
        }

        boolean complete() {
            return single || convenience != NONE || nature != NONE;
        }

        int standing() {
            int open = tally(3);
            boolean over = theEnd != NONE && now > theEnd;
            if (tally(1) > 0 || (over && open > 0)) {
                return 2;
            }
            if (!complete() || open > 0) {
                return 0;
            }
            return tally(2) == membersInAll() ? 3 : 1;
        }

        int partOf(int person, int amount) {
            int parts = tally(0) + tally(1);
            if (!complete() || parts <= 0) {
                return NONE;
            }
            if (yearOf(person) < 0) {
                return 0;
            }
            int ahead = 0;
            for (int i = 0; i < person && i < persons; i++) {
                if (yearOf(i) >= 0) {
                    ahead++;
                }
            }
            return amount / parts + (ahead < amount % parts ? 1 : 0);
        }
    }

    /** THE TEST of a GIFT, of one of its WAYS, or of what it is LOWERED to. */
    private static final class Trial {
        final Reckoner reckoner;
        /* The LIVES in YEAR 0; and as they die by a COURSE. */
        final World start = new World();
        final World played = new World();
        final int[] sorts = new int[MOST_MEMBERS];
        final int[] bases = new int[MOST_MEMBERS];
        int members;
        int whom;
        int told;
        int years;
        int oldest;
        int lastDeath;
        boolean early;

        Trial(Reckoner reckoner) {
            this.reckoner = reckoner;
        }

        /** Takes the E that ends with a step (a T of the GIFT, or the whole), ages to be reached lowered to n. */
        void take(Affairs affairs, Gift gift, int end, int n) {
            reckoner.choose(gift, end, n);
            start.startOf(affairs.world);
            played.startOf(affairs.world);
            played.now = COURSE_NOW;
            whom = gift.whom;
            told = gift.life;
            years = affairs.years;
            oldest = affairs.oldest;
            members = 0;
            addMembers(SORT_LIFE);
            if (!vestedAtStart()) {
                addMembers(SORT_CHILD);
                addMembers(SORT_GRANDCHILD);
            }
        }

        private void addMembers(int sort) {
            for (int life = 0; life < start.lives; life++) {
                if (belongs(sort, life) && members >= 0 && members < MOST_MEMBERS) {
                    sorts[members] = sort;
                    bases[members] = life;
                    members++;
                }
            }
        }

        private boolean vestedAtStart() {
            for (int i = 0; i < members && i < MOST_MEMBERS; i++) {
                if (reckoner.vestingYear(start, start.bornIn(bases[i]), LIVING) >= 0) {
                    return true;
                }
            }
            return false;
        }

        boolean belongs(int sort, int life) {
            int parent = start.parentOf(life);
            if (sort == SORT_LIFE) {
                if (whom == TO_GRANDCHILDREN) {
                    return start.parentOf(parent) == told;
                }
                return whom == TO_CHILDREN ? parent == told : life == told;
            }
            if (-start.bornIn(life) > oldest) {
                return false;
            }
            if (sort == SORT_GRANDCHILD) {
                return whom == TO_GRANDCHILDREN && life == told;
            }
            return whom == TO_CHILDREN ? life == told : whom == TO_GRANDCHILDREN && parent == told;
        }

        int allLives() {
            return (1 << Math.min(start.lives, MOST_LIVES)) - 1;
        }

        boolean isSet(int set) {
            return set >= 0 && set <= allLives();
        }

        boolean isCourse(int course) {
            return course >= 0 && course < 2 * COURSE_EARLY && isSet(course & (COURSE_EARLY - 1));
        }

        int behindOf(int sort, int life, int set) {
            return reckoner.yearsBehind(start, sort, life, set);
        }

        int soonestOf(int sort, int life) {
            return reckoner.soonestYear(start, sort, life);
        }

        /** Whether it is GOOD, these LIVES alone counting. */
        boolean passes(int set) {
            for (int i = 0; i < members && i < MOST_MEMBERS; i++) {
                if (reckoner.yearsBehind(start, sorts[i], bases[i], set) > years) {
                    return false;
                }
            }
            return true;
        }

        int fewestLives() {
            int best = NONE;
            for (int set = allLives(); set >= 0; set--) {
                boolean fewer = best == NONE || Integer.bitCount(set) <= Integer.bitCount(best);
                if (fewer && passes(set)) {
                    best = set;
                }
            }
            return best;
        }

        int tellWorst(int what) {
            int worst = NONE;
            int most = NONE;
            for (int i = 0; i < members && i < MOST_MEMBERS; i++) {
                int here = behindOf(sorts[i], bases[i], allLives());
                if (here > most) {
                    worst = i;
                    most = here;
                }
            }
            if (worst < 0 || worst >= MOST_MEMBERS) {
                return HIDDEN;
            }
            if (what == 2) {
                return most >= EVER ? NONE : most;
            }
            return what == 0 ? sorts[worst] : bases[worst];
        }

        // ---- COURSES

        private void follow(int course) {
            early = (course & COURSE_EARLY) != 0;
            lastDeath = 0;
            for (int life = 0; life < played.lives; life++) {
                int year = ((course >> life) & 1) == 1 ? COURSE_SOON : COURSE_LATE;
                played.setDeath(life, year);
                lastDeath = Math.max(lastDeath, year);
            }
        }

        int yearByCourse(int sort, int life, int course) {
            follow(course);
            return yearFollowed(sort, life);
        }

        private int yearFollowed(int sort, int life) {
            if (sort == SORT_LIFE) {
                return reckoner.vestingYear(played, played.bornIn(life), played.diedIn(life));
            }
            int birth = early ? COURSE_SOON : played.diedIn(life);
            if (sort == SORT_GRANDCHILD) {
                birth += COURSE_GENERATION;
            }
            return reckoner.vestingYear(played, birth, LIVING);
        }

        private boolean isLateBy(int course) {
            follow(course);
            for (int i = 0; i < members && i < MOST_MEMBERS; i++) {
                if (yearFollowed(sorts[i], bases[i]) > lastDeath + years) {
                    return true;
                }
            }
            return false;
        }

        int firstLateCourse() {
            for (int course = 0; course < 2 * COURSE_EARLY; course++) {
                if (isCourse(course) && isLateBy(course)) {
                    return course;
                }
            }
            return NONE;
        }

        int lateCourses() {
            int found = 0;
            for (int course = 0; course < 2 * COURSE_EARLY; course++) {
                if (isCourse(course) && isLateBy(course)) {
                    found++;
                }
            }
            return found;
        }
    }
}
