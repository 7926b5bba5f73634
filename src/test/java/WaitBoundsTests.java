import java.util.function.Supplier;

/** The bounds of wait and see and of STORIES: promises 17 to 26. */
public final class WaitBoundsTests extends Checks {

    static LaterLives fresh() {
        return new LaterLives();
    }

    static LaterLives lived() {
        return TextBoundsTests.lived();
    }

    /** One LIFE with a GIFT, and so many PERSONS in all, born of it in YEAR 12. */
    static LaterLives crowd(int persons, String gift) {
        LaterLives x = ChangeBoundsTests.crowd(persons);
        due("gift() of " + gift, gift(x, gift), 0);
        return x;
    }

    // ---- 17: members

    static void members() {
        says(17, "The i-th member of a GIFT's CLASS, by numbers (i NONE: how many are).");
        LaterLives x = crowd(24, "to children a when years 13");
        due("how many", x.member(0, NONE), 23);
        for (int i = 0; i < 23; i++) {
            due("member(0, " + i + ")", x.member(0, i), i + 1);
        }
        due("member(0, 23)", x.member(0, 23), NONE);
        x = made("a 60; b 30; c 20 of a; d 10 of b; e 5 of a", "to children a when years 50");
        due("the CLASS has a gap", x.member(0, NONE) * 100 + x.member(0, 0) * 10 + x.member(0, 1), 224);
        x = made("a 60; b 45 of a; c 30 of b; d 29 of b; e 15 of c", "to a when years 9", "to grandchildren a when years 9",
            "to grandchildren b when years 9", "to children e when years 9");
        int[] many = {1, 2, 1, 0};
        int[] first = {0, 2, 4, NONE};
        for (int g = 0; g < 4; g++) {
            due("how many of " + g, x.member(g, NONE), many[g]);
            due("the first of " + g, x.member(g, 0), first[g]);
            due("one too many of " + g, x.member(g, many[g]), NONE);
        }
        says(17, "(those not born yet, too, as long as it lives)");
        x.pass(1);
        due("born since", x.birth(2), 5);
        due("a grandchild of b more", x.member(2, NONE), 2);
        due("a grandchild of b", x.member(2, 1), 5);
        due("born of b", x.birth(1), 6);
        due("a grandchild of a more", x.member(1, NONE), 3);
        x.death(4);
        x.death(0);
        due("dead ones stay", x.member(2, 0), 4);
        due("so does the LIFE told", x.member(0, 0), 0);
        says(17, "NONE: no such ones.");
        for (int none : new int[] {-2, 1, 2, 24, MIN, MAX}) {
            asked("member(0, " + none + ")", WaitBoundsTests::lived, y -> y.member(0, none), NONE);
        }
        for (int none : new int[] {-1, 3, 8, MIN, MAX}) {
            asked("member(" + none + ", NONE)", WaitBoundsTests::lived, y -> y.member(none, NONE), NONE);
            asked("member(" + none + ", 0)", WaitBoundsTests::lived, y -> y.member(none, 0), NONE);
        }
        asked("member(0, NONE), no FAMILY", WaitBoundsTests::fresh, y -> y.member(0, NONE), NONE);
    }

    static void bornBy() {
        says(17, "Members are those born by the YEAR it closes by CONVENIENCE (all, if it hasn't).");
        LaterLives x = made("a 60", "to children a when years 5");
        x.pass(4);
        due("born ahead of it", x.birth(0), 1);
        x.pass(1);
        due("born in that YEAR", x.birth(0), 2);
        x.pass(1);
        due("born behind it", x.birth(0), 3);
        due("how many", x.member(0, NONE), 2);
        due("in that YEAR: in", x.member(0, 1), 2);
        due("behind it: none", x.vests(0, 3), -3);
        due("VESTED", x.vests(0, 1), 5);
        due("VESTED", x.vests(0, 2), 5);
        x = made("a 60; b 30 of a", "to children a when born");
        x.pass(1);
        x.birth(0);
        due("closed in YEAR 0", x.member(0, NONE), 1);
        x = made("a 60", "to children a when born");
        x.pass(9);
        x.birth(0);
        x.birth(0);
        due("both in the YEAR in which they are born and VEST", x.member(0, NONE), 2);
        x = made("a 60; b 30 of a", "to children a when years 50");
        x.pass(3);
        x.death(0);
        x.birth(0);
        due("it closed by NATURE in this YEAR", x.closes(0, 1), 3);
        due("all, if not by CONVENIENCE", x.member(0, NONE), 2);
        x = made("a 60; b 30 of a", "to grandchildren a when reaches 1");
        x.pass(1);
        x.birth(1);
        x.pass(1);
        x.birth(1);
        x.pass(1);
        x.birth(1);
        due("one of 1, one born in that YEAR", x.member(0, NONE), 2);
    }

    // ---- 18: WHEN

    /** Of a 60; b 30 of a; c 5 of b; d 20: b died in YEAR 4, and it is YEAR 10. */
    static int when(String e) {
        LaterLives x = made(FOUR, "to c when " + e);
        x.pass(4);
        x.death(1);
        x.pass(6);
        return x.vests(0, 2);
    }

    static void facts() {
        says(18, "a YEAR (not above now), NOT YET, or NEVER");
        says(18, "years N: YEAR N.");
        due("years 0", when("years 0"), 0);
        due("years 9", when("years 9"), 9);
        due("years 10", when("years 10"), 10);
        due("years 11", when("years 11"), NONE);
        due("years 99", when("years 99"), NONE);
        due("in YEAR 0", made(FOUR, "to c when years 0").vests(0, 2), 0);
        due("in YEAR 0", made(FOUR, "to c when years 1").vests(0, 2), NONE);
        says(18, "dies: the YEAR in which that LIFE died.");
        due("dies b", when("dies b"), 4);
        due("dies a", when("dies a"), NONE);
        due("dies c", when("dies c"), NONE);
        LaterLives x = made(FOUR, "to c when dies c", "to d when dies c");
        x.death(2);
        due("in YEAR 0, its own", x.vests(0, 2), 0);
        due("in YEAR 0", x.vests(1, 3), 0);
        says(18, "born: the YEAR of m's birth (0, if ahead of that).");
        due("born", when("born"), 0);
        x = made("a 60; b 0 of a; c 1", "to b when born", "to c when born", "to children a when born and years 1");
        due("of AGE 0", x.vests(0, 1), 0);
        due("of AGE 1", x.vests(1, 2), 0);
        x = made("a 60", "to children a when born");
        x.pass(1);
        x.birth(0);
        due("in YEAR 1", x.vests(0, 1), 1);
    }

    static void ages() {
        says(18, "reaches N: the YEAR of m's birth and N (0, if ahead of that; that LIFE's, where a NAME is told)");
        due("AGE 5, reaches 0", when("reaches 0"), 0);
        due("AGE 5, reaches 4", when("reaches 4"), 0);
        due("AGE 5, reaches 5", when("reaches 5"), 0);
        due("AGE 5, reaches 6", when("reaches 6"), 1);
        due("AGE 5, reaches 15", when("reaches 15"), 10);
        due("AGE 5, reaches 16", when("reaches 16"), NONE);
        due("a reaches 60", when("a reaches 60"), 0);
        due("a reaches 61", when("a reaches 61"), 1);
        due("a reaches 70", when("a reaches 70"), 10);
        due("a reaches 71", when("a reaches 71"), NONE);
        due("c reaches 6, as m", when("c reaches 6"), 1);
        says(18, "if m hasn't died ahead of that YEAR; else NEVER");
        due("b, dead in 4, reaches 33", when("b reaches 33"), 3);
        due("b, dead in 4, reaches 34", when("b reaches 34"), 4);
        due("b, dead in 4, reaches 35", when("b reaches 35"), -2);
        due("b, dead in 4, reaches 99", when("b reaches 99"), -2);
        for (int n = 4; n <= 9; n++) {
            LaterLives x = made(FOUR, "to c when reaches " + n);
            x.pass(2);
            x.death(2);
            due("dead in 2 at 7, reaches " + n, x.vests(0, 2), n <= 5 ? 0 : n <= 7 ? n - 5 : -2);
            x = made(FOUR, "to c when reaches " + n);
            x.death(2);
            due("dead in 0 at 5, reaches " + n, x.vests(0, 2), n <= 5 ? 0 : -2);
            x = made(FOUR, "to d when c reaches " + n);
            x.death(2);
            due("dead in 0 at 5, that LIFE's, reaches " + n, x.vests(0, 3), n <= 5 ? 0 : -2);
        }
        LaterLives x = made("a 60", "to children a when reaches 0", "to children a when reaches 1", "to children a when reaches 2");
        x.pass(5);
        x.birth(0);
        due("born now, reaches 0", x.vests(0, 1), 5);
        due("born now, reaches 1", x.vests(1, 1), NONE);
        x.pass(1);
        x.death(1);
        due("dead at 1, reaches 0", x.vests(0, 1), 5);
        due("dead at 1, reaches 1", x.vests(1, 1), 6);
        due("dead at 1, reaches 2", x.vests(2, 1), -2);
    }

    static void afterAndJoints() {
        says(18, "after N F: N YEARS behind F's (what is above now is NOT YET; NEVER stays).");
        due("after 0 years 10", when("after 0 years 10"), 10);
        due("after 6 dies b", when("after 6 dies b"), 10);
        due("after 7 dies b", when("after 7 dies b"), NONE);
        due("after 0 years 11", when("after 0 years 11"), NONE);
        due("after 99 years 99", when("after 99 years 99"), NONE);
        due("after 1 NOT YET", when("after 1 dies a"), NONE);
        due("after 5 NOT YET", when("after 5 years 50"), NONE);
        due("after 5 after 5 NOT YET", when("after 5 after 5 (years 50)"), NONE);
        due("after 0 NEVER", when("after 0 b reaches 99"), -2);
        due("after 99 NEVER", when("after 99 b reaches 99"), -2);
        due("after 3 after 3 dies b", when("after 3 after 3 dies b"), 10);
        due("after 3 after 4 dies b", when("after 3 after 4 dies b"), NONE);
        due("after 10 born", when("after 10 born"), 10);
        due("after 11 born", when("after 11 born"), NONE);
        LaterLives x = made(FOUR, "to c when after 99 after 99 after 99 after 99 after 3 years 0",
            "to c when after 99 after 99 after 99 after 99 after 4 years 0");
        for (int i = 0; i < 4; i++) {
            x.pass(i < 3 ? 100 : 99);
        }
        due("399", x.vests(0, 2), 399);
        due("400", x.vests(1, 2), NONE);
        says(18, "and: the later one (NEVER, if one is; else NOT YET, if one is); or: the earlier one of those that are YEARS; else NOT YET, "
            + "if one is, else NEVER.");
        String[] facts = {"years 3", "years 8", "years 50", "b reaches 99"};
        int[][] and = {{3, 8, NONE, -2}, {8, 8, NONE, -2}, {NONE, NONE, NONE, -2}, {-2, -2, -2, -2}};
        int[][] or = {{3, 3, 3, 3}, {3, 8, 8, 8}, {3, 8, NONE, NONE}, {3, 8, NONE, -2}};
        for (int i = 0; i < 4; i++) {
            for (int j = 0; j < 4; j++) {
                due(facts[i] + " and " + facts[j], when(facts[i] + " and " + facts[j]), and[i][j]);
                due(facts[i] + " or " + facts[j], when(facts[i] + " or " + facts[j]), or[i][j]);
                due("( ) and", when("(" + facts[i] + ") and (" + facts[j] + " or " + facts[j] + ")"), and[i][j]);
            }
        }
        due("0 and 0", when("years 0 and born"), 0);
        due("0 or 10", when("years 10 or born"), 0);
        due("or binds less", when("years 50 and years 8 or years 3"), 3);
        due("or binds less", when("years 3 or years 50 and years 8"), 3);
        due("( binds more", when("years 50 and (years 8 or years 3)"), NONE);
    }

    static void vesting() {
        says(18, "A member VESTS in that YEAR, or in that of its birth, if this is later.");
        for (int born = 4; born <= 6; born++) {
            LaterLives x = made("a 60", "to children a when years 5");
            x.pass(born);
            x.birth(0);
            x.pass(6 - born + 1);
            due("born in " + born, x.vests(0, 1), Math.max(5, born));
        }
        LaterLives x = made("a 60; b 5 of a", "to b when years 0", "to children a when dies a");
        due("born ahead of YEAR 0", x.vests(0, 1), 0);
        x = made("a 60", "to children a when after 0 dies a");
        x.pass(7);
        x.death(0);
        x.birth(0);
        due("born in the YEAR of the death", x.vests(0, 1), 7);
        says(18, "NONE: NOT YET; -2: NEVER; -3: it is none; HIDDEN: no such GIFT, PERSON.");
        asked("NOT YET", WaitBoundsTests::lived, y -> y.vests(2, 3), NONE);
        asked("it is none", WaitBoundsTests::lived, y -> y.vests(2, 2), -3);
        asked("born since, no member", WaitBoundsTests::lived, y -> y.vests(0, 4), -3);
        for (int none : new int[] {-1, 5, 24, MIN, MAX}) {
            asked("vests(0, " + none + ")", WaitBoundsTests::lived, y -> y.vests(0, none), HIDDEN);
        }
        for (int none : new int[] {-1, 3, 8, MIN, MAX}) {
            asked("vests(" + none + ", 0)", WaitBoundsTests::lived, y -> y.vests(none, 0), HIDDEN);
        }
        asked("vests(0, 24) of 24", () -> crowd(24, "to a when born"), y -> y.vests(0, 24), HIDDEN);
        asked("vests(0, 23) of 24", () -> crowd(24, "to a when born"), y -> y.vests(0, 23), -3);
        asked("vests(0, 0), no FAMILY", WaitBoundsTests::fresh, y -> y.vests(0, 0), HIDDEN);
    }

    // ---- 19: closing

    static void closing() {
        says(19, "closes by CONVENIENCE in the first YEAR in which a member VESTS");
        LaterLives x = made("a 60; b 30 of a; c 31 of a", "to children a when reaches 31", "to children a when reaches 30",
            "to children a when reaches 32");
        due("c in YEAR 0", x.closes(0, 0), 0);
        due("both in YEAR 0", x.closes(1, 0), 0);
        due("not yet", x.closes(2, 0), NONE);
        x.pass(1);
        due("c in YEAR 1", x.closes(2, 0), 1);
        x.pass(1);
        due("b in YEAR 2: the first", x.closes(2, 0), 1);
        x = made("a 60; b 30 of a; c 31 of a", "to children a when reaches 32");
        x.death(2);
        x.pass(2);
        due("one NEVER, the other", x.closes(0, 0), 2);
        says(19, "the LIFE is dead; for grandchildren all its children, too: the last such YEAR");
        x = made("a 60; b 30 of a; c 31 of a", "to children a when years 90", "to grandchildren a when years 90",
            "to children b when years 90", "to grandchildren b when years 90", "to a when years 90");
        x.death(0);
        due("in YEAR 0", x.closes(0, 1), 0);
        x.pass(3);
        x.death(1);
        due("c lives", x.closes(1, 1), NONE);
        due("no children", x.closes(2, 1), 3);
        due("no children to have children", x.closes(3, 1), 3);
        due("of one", x.closes(4, 1), NONE);
        x.pass(3);
        x.death(2);
        due("the last one", x.closes(1, 1), 6);
        due("the first stays", x.closes(0, 1), 0);
        x = made("a 60; b 30 of a", "to grandchildren a when years 90");
        x.death(1);
        x.pass(5);
        due("the LIFE lives", x.closes(0, 1), NONE);
        x.death(0);
        due("the LIFE is the last", x.closes(0, 1), 5);
        due("a child in this YEAR", x.birth(0), 2);
        due("it can have children", x.closes(0, 1), NONE);
        x.death(2);
        due("it is dead, too", x.closes(0, 1), 5);
        due("those it is NATURE's YEAR of: none VESTED", x.closes(0, 0), NONE);
        says(19, "The YEAR in which the CLASS closes by CONVENIENCE (what 0), NATURE (1).");
        x = made("a 60; b 30 of a", "to children a when reaches 31");
        x.pass(1);
        due("by CONVENIENCE", x.closes(0, 0), 1);
        due("not by NATURE", x.closes(0, 1), NONE);
        x.pass(1);
        x.death(0);
        due("by CONVENIENCE, too", x.closes(0, 0), 1);
        due("by NATURE, too", x.closes(0, 1), 2);
        says(19, "NONE: it hasn't, it is of one, no such ones.");
        due("to one, VESTED", made(FOUR, "to a when born").closes(0, 0), NONE);
        for (int none : new int[] {-1, 2, 3, MIN, MAX}) {
            asked("closes(1, " + none + ")", WaitBoundsTests::lived, y -> y.closes(1, none), NONE);
        }
        for (int none : new int[] {-1, 3, 8, MIN, MAX}) {
            asked("closes(" + none + ", 0)", WaitBoundsTests::lived, y -> y.closes(none, 0), NONE);
            asked("closes(" + none + ", 1)", WaitBoundsTests::lived, y -> y.closes(none, 1), NONE);
        }
        asked("closes(0, 0), no FAMILY", WaitBoundsTests::fresh, y -> y.closes(0, 0), NONE);
    }

    // ---- 20, 21: STATE, counts

    /** a and b of a; both dead in YEAR 5, PERIOD 7: THE END is 12; c of b is of AGE 5 and lives. */
    static LaterLives ended(String gift, int now) {
        LaterLives x = made("a 60; b 30 of a; c 5 of b", gift);
        x.period(7);
        x.pass(5);
        for (int i = 0; i < 3; i++) {
            x.death(i);
        }
        if (now > 5) {
            x.pass(now - 5);
        }
        return x;
    }

    static void counts(String what, LaterLives x, int state, int inTime, int late, int never, int notYet) {
        due(what + ", state(0)", x.state(0), state);
        due(what + ", in time", x.count(0, 0), inTime);
        due(what + ", LATE", x.count(0, 1), late);
        due(what + ", NEVER", x.count(0, 2), never);
        due(what + ", NOT YET", x.count(0, 3), notYet);
    }

    static void states() {
        says(20, "now is above THE END and a member is NOT YET");
        counts("now 12", ended("to c when years 20", 12), 0, 0, 0, 0, 1);
        counts("now 13", ended("to c when years 20", 13), 2, 0, 0, 0, 1);
        counts("now 19", ended("to c when years 20", 19), 2, 0, 0, 0, 1);
        says(20, "2 a member is LATE");
        says(21, "A member that VESTS above THE END is LATE.");
        counts("years 12", ended("to c when years 12", 12), 1, 1, 0, 0, 0);
        counts("years 12, later", ended("to c when years 12", 99), 1, 1, 0, 0, 0);
        counts("years 13", ended("to c when years 13", 13), 2, 0, 1, 0, 0);
        counts("years 0", ended("to c when years 0", 13), 1, 1, 0, 0, 0);
        LaterLives x = ended("to c when years 13", 13);
        x.period(8);
        counts("PERIOD 8", x, 1, 1, 0, 0, 0);
        x.period(0);
        counts("PERIOD 0", x, 2, 0, 1, 0, 0);
        x = ended("to c when years 5", 5);
        x.period(0);
        counts("PERIOD 0, in that YEAR", x, 1, 1, 0, 0, 0);
        x = ended("to c when years 6", 6);
        x.period(0);
        counts("PERIOD 0, a YEAR behind", x, 2, 0, 1, 0, 0);
        says(20, "none, as long as one lives");
        x = made("a 60; b 30 of a", "to b when years 99");
        x.period(0);
        x.death(0);
        x.pass(98);
        counts("one lives", x, 0, 0, 0, 0, 1);
        x.pass(1);
        counts("one lives", x, 1, 1, 0, 0, 0);
        says(20, "3 all members NEVER do (also without any), and nobody can come any more");
        counts("to one: NEVER", ended("to c when reaches 11", 5), 3, 0, 0, 1, 0);
        counts("above THE END, too", ended("to c when reaches 11", 13), 3, 0, 0, 1, 0);
        counts("to one: dead in that YEAR", ended("to c when reaches 10", 5), 1, 1, 0, 0, 0);
        counts("without any, closed by NATURE", ended("to children c when born", 5), 3, 0, 0, 0, 0);
        counts("without any, above THE END", ended("to children c when born", 13), 3, 0, 0, 0, 0);
        counts("without any, somebody can come", made(FOUR, "to children c when born"), 0, 0, 0, 0, 0);
        counts("all NEVER, closed by NATURE", ended("to children b when reaches 11", 5), 3, 0, 0, 1, 0);
        x = made("a 60; b 30 of a", "to children a when reaches 31");
        x.death(1);
        counts("all NEVER, somebody can come", x, 0, 0, 0, 1, 0);
        x.death(0);
        counts("nobody can come", x, 3, 0, 0, 1, 0);
    }

    static void moreStates() {
        says(20, "(nobody can come any more: it is to one, or its CLASS has closed by either)");
        counts("to one", made("a 60; b 30 of a", "to b when born"), 1, 1, 0, 0, 0);
        counts("closed by CONVENIENCE, the LIFE lives", made("a 60; b 30 of a", "to children a when born"), 1, 1, 0, 0, 0);
        counts("not closed", made("a 60; b 30 of a", "to children a when years 1"), 0, 0, 0, 0, 1);
        says(20, "1 each member has VESTED or NEVER does, and nobody can come any more");
        LaterLives x = made("a 60; b 30 of a; c 20 of a; d 19 of a", "to children a when reaches 31");
        counts("NOT YET", x, 0, 0, 0, 0, 3);
        x.death(2);
        x.pass(1);
        counts("one VESTED, one NEVER, one NOT YET", x, 0, 1, 0, 1, 1);
        x.death(3);
        counts("one VESTED, two NEVER", x, 1, 1, 0, 2, 0);
        x.undo();
        x.pass(11);
        counts("two VESTED, one NEVER", x, 1, 2, 0, 1, 0);
        counts("to one, NOT YET", made(FOUR, "to c when reaches 6"), 0, 0, 0, 0, 1);
        counts("to one, VESTED in YEAR 0", made(FOUR, "to c when reaches 5"), 1, 1, 0, 0, 0);
        says(20, "Of several the first as they stand here.");
        x = made("a 60; b 30 of a; c 20 of a", "to children a when reaches 31 and years 9");
        x.period(3);
        x.pass(5);
        x.birth(0);
        x.death(0);
        x.death(1);
        x.death(2);
        counts("b and the child NOT YET, c NEVER", x, 0, 0, 0, 1, 2);
        x.pass(3);
        counts("in THE END", x, 0, 0, 0, 1, 2);
        x.pass(1);
        counts("b is LATE", x, 2, 0, 1, 1, 1);
        x.pass(26);
        counts("the child is 30", x, 2, 0, 1, 1, 1);
        x.pass(1);
        counts("the child is LATE, all have VESTED or NEVER do", x, 2, 0, 2, 1, 0);
        x.period(31);
        counts("THE END is 36", x, 1, 2, 0, 1, 0);
        x = made("a 60; b 30 of a", "to grandchildren a when reaches 30");
        x.period(0);
        x.pass(2);
        x.birth(0);
        x.death(0);
        x.death(1);
        x.pass(13);
        counts("above THE END, without any, somebody can come", x, 0, 0, 0, 0, 0);
        x.birth(2);
        counts("above THE END, one NOT YET, somebody can come", x, 2, 0, 0, 0, 1);
        x.death(3);
        counts("above THE END, one NEVER, somebody can come", x, 0, 0, 0, 1, 0);
        x.death(2);
        counts("nobody can come", x, 3, 0, 0, 1, 0);
        says(20, "STATE. NONE: no such GIFT.");
        for (int none : new int[] {-1, 3, 8, MIN, MAX}) {
            asked("state(" + none + ")", WaitBoundsTests::lived, y -> y.state(none), NONE);
            asked("count(" + none + ", 0)", WaitBoundsTests::lived, y -> y.count(none, 0), NONE);
        }
        asked("state(0), no FAMILY", WaitBoundsTests::fresh, y -> y.state(0), NONE);
        asked("state(8) of eight", TextBoundsTests::full, y -> y.state(8), NONE);
        says(21, "How many members have VESTED in time (what 0), LATE (1), NEVER do (2), NOT YET have (3). NONE: no such ones.");
        for (int none : new int[] {-1, -2, -3, 4, 5, MIN, MAX}) {
            asked("count(0, " + none + ")", WaitBoundsTests::lived, y -> y.count(0, none), NONE);
        }
        asked("count(0, 0), no FAMILY", WaitBoundsTests::fresh, y -> y.count(0, 0), NONE);
        counts("23 members", crowd(24, "to children a when years 12"), 1, 23, 0, 0, 0);
        counts("23 members", crowd(24, "to children a when years 13"), 0, 0, 0, 0, 23);
        x = made("a 60", "to children a when years 5");
        x.pass(5);
        x.birth(0);
        x.pass(1);
        x.birth(0);
        counts("one born behind it", x, 1, 1, 0, 0, 0);
    }

    // ---- 22: SHARES

    static void shares() {
        says(22, "as many parts as these are, cut down; what is left one each to those of lower numbers");
        LaterLives x = crowd(24, "to children a when years 12");
        for (int p = 1; p < 24; p++) {
            due("6 left of a million, " + p, x.share(0, p, 1000000), p <= 6 ? 43479 : 43478);
            due("none left, " + p, x.share(0, p, 46), 2);
            due("22 left, " + p, x.share(0, p, 45), p < 23 ? 2 : 1);
            due("1 left, " + p, x.share(0, p, 47), p == 1 ? 3 : 2);
            due("less than parts, " + p, x.share(0, p, 5), p <= 5 ? 1 : 0);
            due("nothing, " + p, x.share(0, p, 0), 0);
            due("one, " + p, x.share(0, p, 1), p == 1 ? 1 : 0);
            due("22, " + p, x.share(0, p, 22), p == 23 ? 0 : 1);
        }
        due("no member", x.share(0, 0, 1000000), 0);
        x = made("a 60; b 30 of a; c 20 of a; d 30 of a; e 30 of a", "to children a when reaches 30", "to c when born");
        due("VESTED, lower", x.share(0, 1, 5), 2);
        due("NOT YET: none", x.share(0, 2, 5), 0);
        due("VESTED, next", x.share(0, 3, 5), 2);
        due("VESTED, highest", x.share(0, 4, 5), 1);
        x.death(2);
        due("NEVER: none", x.share(0, 2, 5), 0);
        due("to one, though dead", x.share(1, 2, 1000000), 1000000);
        x.pass(1);
        x.birth(0);
        due("born behind the closing", x.share(0, 5, 5), 0);
        due("in three parts", x.share(0, 4, 5), 1);
        says(22, "of those members that have VESTED (in time or LATE)");
        x = ended("to c when years 13", 13);
        due("LATE", x.share(0, 2, 7), 7);
        says(22, "once nobody can come any more");
        x = made("a 60; b 30 of a", "to grandchildren a when years 5", "to children a when years 1");
        due("somebody can come", x.share(1, 1, 5), NONE);
        x.pass(1);
        due("VESTED: closed", x.share(1, 1, 5), 5);
        x.birth(1);
        due("somebody can come", x.share(0, 2, 5), NONE);
        x.death(0);
        x.death(1);
        due("nobody can come, nobody has VESTED", x.share(0, 2, 5), NONE);
        x.pass(4);
        due("one has", x.share(0, 2, 5), 5);
    }

    static void noShares() {
        says(22, "(0 to 1000000): what a PERSON gets (0: it is no member, hasn't VESTED)");
        says(22, "NONE: somebody can come still, nobody has VESTED, no such ones.");
        Supplier<LaterLives> start = () -> crowd(24, "to children a when years 12");
        asked("nothing", start, y -> y.share(0, 1, 0), 0);
        asked("the most", start, y -> y.share(0, 23, 1000000), 43478);
        for (int amount : new int[] {-1, 1000001, MIN, MAX}) {
            asked("share(0, 1, " + amount + ")", start, y -> y.share(0, 1, amount), NONE);
            asked("no member, share(0, 0, " + amount + ")", start, y -> y.share(0, 0, amount), NONE);
        }
        for (int none : new int[] {-1, 24, MIN, MAX}) {
            asked("share(0, " + none + ", 5)", start, y -> y.share(0, none, 5), NONE);
        }
        for (int none : new int[] {-1, 1, 8, MIN, MAX}) {
            asked("share(" + none + ", 1, 5)", start, y -> y.share(none, 1, 5), NONE);
        }
        asked("no member", start, y -> y.share(0, 0, 5), 0);
        asked("no FAMILY", WaitBoundsTests::fresh, y -> y.share(0, 0, 5), NONE);
        asked("without members", () -> ended("to children c when born", 5), y -> y.share(0, 0, 5), NONE);
        asked("one, NEVER", () -> ended("to c when reaches 11", 5), y -> y.share(0, 2, 5), NONE);
        asked("to one, NOT YET", WaitBoundsTests::lived, y -> y.share(2, 3, 5), NONE);
    }

    // ---- 23 to 26: STORIES

    static void played(String text, int done, int year, int persons, int ended, int living) {
        LaterLives x = made(FOUR);
        due("story() of " + text, story(x, text), done);
        due("the YEAR of " + text, x.storied(0), year);
        due("PERSONS of " + text, x.storied(1), persons);
        due("what ended " + text, x.storied(2), ended);
        due("who live in " + text, x.storied(4), living);
        due("the TAPE is empty", x.size(0), 0);
        due("nothing has happened", x.rule(0) * 10 + x.rule(1), 4);
    }

    static void stories() {
        says(23, "the first one that can't be (no such PERSON, as death(), birth() would refuse it) ends it");
        played("in 0", 1, 0, 4, NONE, 15);
        played("in 399", 1, 399, 4, NONE, 15);
        played("a dies", 1, 0, 4, NONE, 14);
        played("a bears", 0, 0, 4, 0, 15);
        played("in 0;a bears;in 5", 1, 0, 4, 1, 15);
        played("in 1;a bears", 2, 1, 5, NONE, 15);
        played("in 7;c bears", 1, 7, 4, 1, 15);
        played("in 8;c bears", 2, 8, 5, NONE, 15);
        played("in 1;a bears;in 13;person 4 bears;in 20", 3, 13, 5, 3, 15);
        played("in 1;a bears;in 14;person 4 bears;in 20", 5, 20, 6, NONE, 15);
        played("a dies;a dies", 1, 0, 4, 1, 14);
        played("a dies;in 9;a dies;b dies", 2, 9, 4, 2, 14);
        played("in 1;a dies;a bears", 3, 1, 5, NONE, 14);
        played("in 1;a dies;in 2;a bears", 3, 2, 4, 3, 14);
        played("in 1;person 3 bears;person 4 dies;person 4 dies", 3, 1, 5, 3, 15);
        played("in 1;person 4 dies", 1, 1, 4, 1, 15);
        played("person 23 dies", 0, 0, 4, 0, 15);
        played("in 1;person 23 bears", 1, 1, 4, 1, 15);
        played("a dies;b dies;c dies;person 3 dies", 4, 0, 4, NONE, 0);
        played("in 1" + times(";a bears", 20), 21, 1, 24, NONE, 15);
        played("in 1" + times(";a bears", 21), 21, 1, 24, 21, 15);
        played("in 1" + times(";a bears", 20) + ";person 23 dies" + times(";in 9", 8), 30, 9, 24, NONE, 15);
        played(times("in 5;", 29) + "in 6", 30, 6, 4, NONE, 15);
        played(times("in 5;", 29) + "person 9 dies", 29, 5, 4, 29, 15);
        says(23, "how many EVENTS were done");
        for (int many = 1; many <= 30; many++) {
            played("in 7" + times(";in 7", many - 1), many, 7, 4, NONE, 15);
        }
        for (int first = 0; first < 30; first++) {
            played(times("in 7;", first) + "person 4 dies" + times(";in 8", 29 - first), first, first == 0 ? 0 : 7, 4, first, 15);
        }
        says(23, "from YEAR 0 on, all LIVES living");
        LaterLives x = lived();
        due("in fact it is YEAR 10, a is dead", story(x, "in 1;a bears;a dies"), 3);
        due("a child more", x.storied(1), 5);
        due("born since isn't there", story(x, "in 10;person 4 dies"), 1);
        says(23, "NONE: no FAMILY, a FAULT (the TAPE, the STORY ahead stay).");
        asked("no FAMILY", () -> {
            LaterLives y = fresh();
            tell(y, "in 5");
            return y;
        }, y -> y.story(), NONE);
        for (String text : new String[] {"", "in", "in 400", "in 5;in 4", "in 5;", "e dies", "person 24 dies", "in 0" + times(";in 0", 30)}) {
            asked("story() of " + text, () -> TextBoundsTests.livedWith(text), y -> y.story(), NONE);
        }
        x = lived();
        int acts = x.size(1);
        due("a STORY", story(x, "in 7;a dies"), 2);
        due("no ACT", x.size(1), acts);
    }

    static void storied() {
        says(24, "0 the YEAR, 1 PERSONS, 2 the EVENT that ended it (0 on; NONE: none), 3 THE END (NONE), 4 LIVES that live (bits)");
        LaterLives x = made(FOUR);
        story(x, "in 5;a dies;b dies;c dies");
        due("one lives", x.storied(3), NONE);
        story(x, "in 5;a dies;b dies;c dies;in 6;d dies");
        due("THE END", x.storied(3), 27);
        x.period(0);
        due("by PERIOD as it is", x.storied(3), 6);
        x.period(99);
        due("by PERIOD as it is", x.storied(3), 105);
        story(x, "a dies;b dies;c dies;d dies");
        x.period(0);
        due("THE END in YEAR 0", x.storied(3), 0);
        says(24, "NONE: there is none, no such what.");
        for (int what : new int[] {-1, 5, 6, MIN, MAX}) {
            asked("storied(" + what + ")", WaitBoundsTests::lived, y -> y.storied(what), NONE);
        }
        for (int i = 0; i < 5; i++) {
            int what = i;
            asked("none told, storied(" + what + ")", () -> made(FOUR), y -> y.storied(what), NONE);
            asked("no FAMILY, storied(" + what + ")", WaitBoundsTests::fresh, y -> y.storied(what), NONE);
        }
        says(24, "What it tells is by GIFTS, PERIOD as they are when asked.");
        x = made(FOUR, "to a when years 30");
        story(x, "in 5;a dies;b dies;c dies;d dies;in 30");
        due("LATE by 26", x.storyState(0), 2);
        x.period(25);
        due("in time by 30", x.storyState(0), 1);
        due("THE END is 30", x.storied(3), 30);
        x.drop(0);
        due("dropped", x.storyState(0), NONE);
        gift(x, "to a when years 31");
        due("told since", x.storyVests(0, 0), NONE);
        due("in THE END", x.storyState(0), 0);
        x.undo();
        x.undo();
        due("UNDONE", x.storyVests(0, 0), 30);
        says(25, "STATE by the STORY. NONE: there is none, no such GIFT.");
        x = made("a 60; b 30 of a", "to b when years 20", "to b when reaches 45", "to children b when born", "to b when dies a");
        x.period(4);
        story(x, "a dies;in 15;b dies;in 19");
        due("in THE END, NOT YET", x.storyState(0), 0);
        due("VESTED", x.storyState(1), 1);
        due("without any", x.storyState(2), 3);
        due("VESTED in YEAR 0", x.storyState(3), 1);
        story(x, "a dies;in 15;b dies;in 20");
        due("LATE", x.storyState(0), 2);
        x.period(5);
        due("by PERIOD as it is", x.storyState(0), 1);
        for (int none : new int[] {-1, 3, 8, MIN, MAX}) {
            asked("storyState(" + none + ")", WaitBoundsTests::lived, y -> y.storyState(none), NONE);
        }
        asked("none told", () -> made(FOUR, "to a when born"), y -> y.storyState(0), NONE);
        asked("no FAMILY", WaitBoundsTests::fresh, y -> y.storyState(0), NONE);
        says(26, "As vests(), by the STORY. HIDDEN: there is none, no such ones.");
        due("NOT YET", story(x, "in 15") * 100 + x.storyVests(0, 1), 99);
        due("YEAR 15", x.storyVests(1, 1), 15);
        due("it is none", x.storyVests(1, 0), -3);
        due("NEVER", story(x, "in 14;b dies;in 15;a bears") + x.storyVests(1, 1), 2);
        due("born in it", x.storyVests(2, 2), -3);
        due("not there", x.storyVests(2, 3), HIDDEN);
        for (int none : new int[] {-1, 5, 24, MIN, MAX}) {
            asked("storyVests(0, " + none + ")", WaitBoundsTests::lived, y -> y.storyVests(0, none), HIDDEN);
        }
        for (int none : new int[] {-1, 3, 8, MIN, MAX}) {
            asked("storyVests(" + none + ", 0)", WaitBoundsTests::lived, y -> y.storyVests(none, 0), HIDDEN);
        }
        asked("none told", () -> made(FOUR, "to a when born"), y -> y.storyVests(0, 0), HIDDEN);
        asked("no FAMILY", WaitBoundsTests::fresh, y -> y.storyVests(0, 0), HIDDEN);
    }

    public static void main(String[] arguments) {
        members();
        bornBy();
        facts();
        ages();
        afterAndJoints();
        vesting();
        closing();
        states();
        moreStates();
        shares();
        noShares();
        stories();
        storied();
        covered(17, 26);
        tellHowItWent("bounds of wait and see: all answers are as due");
    }
}
