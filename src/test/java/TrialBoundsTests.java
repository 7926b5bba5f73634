/** The bounds of THE TEST and of COURSES: promises 27 to 37. */
public final class TrialBoundsTests extends Checks {
    static final String THREE = "a 60; b 30 of a; c 5 of b";
    static final String EIGHT = "a1;b1;c1;d1;e1;f1;g1;h1";
    static final int[] NO_GIFTS = {-1, 3, 4, 8, MIN, MAX};

    static LaterLives fresh() {
        return new LaterLives();
    }

    static LaterLives lived() {
        return TextBoundsTests.lived();
    }

    static LaterLives three(String e) {
        return made(THREE, "to grandchildren a when " + e);
    }

    // ---- 27: GOOD

    static void byPeriod() {
        says(27, "A GIFT is GOOD, if BEHIND of all members of its SORTS (all LIVES counting) is PERIOD at most.");
        due("0 by 0", goodBy("to c when years 0", 0), 1);
        due("1 by 0", goodBy("to c when years 1", 0), 0);
        due("21 by 21", goodBy("to c when years 21", 21), 1);
        due("22 by 21", goodBy("to c when years 22", 21), 0);
        due("99 by 99", goodBy("to c when years 99", 99), 1);
        due("98 by 98", goodBy("to c when years 98", 98), 1);
        due("99 by 98", goodBy("to c when years 99", 98), 0);
        due("100 by 99", goodBy("to c when after 1 years 99", 99), 0);
        due("ever by 99", goodBy("to grandchildren a when reaches 6", 99), 0);
        due("SORT 1: 21", goodBy("to children c when reaches 21", 21), 1);
        due("SORT 1: 22", goodBy("to children c when reaches 22", 21), 0);
        due("SORT 0 of AGE 5, counting", goodBy("to c when reaches 99", 0), 1);
        due("the first PERIOD is 21", made(THREE, "to c when years 21").good(0), 1);
        due("the first PERIOD is 21", made(THREE, "to c when years 22").good(0), 0);
        says(27, "THE TEST goes by YEAR 0 alone (births, deaths since don't count).");
        LaterLives x = made(THREE, "to children c when reaches 21", "to children c when reaches 22", "to c when dies b",
            "to children a when years 0 and reaches 31");
        for (int i = 0; i < 2; i++) {
            due("21", x.good(0), 1);
            due("22", x.good(1), 0);
            due("dies", x.good(2), 1);
            due("SORT 1: 31", x.good(3), 0);
            due("b counts", x.behind(2, 0, 2, 2), 0);
            due("b doesn't", x.behind(2, 0, 2, 5), NONE);
            due("soonest", x.soonest(0, 1, 2), 22);
            due("carriers", x.carriers(0), 4);
            due("lowered", x.lowered(3), 30);
            due("witness", x.witness(1), 0);
            due("course", x.course(1, 1, 2, 0), 82);
            // c in YEAR 60, not EARLY: 4; all in YEAR 1: 2
            due("lates", x.lates(1), 6);
            due("worst", x.worst(1, 2), 22);
            due("firstBad", x.firstBad(), 1);
            x.death(2);
            x.pass(20);
            x.death(1);
            x.birth(0);
        }
        says(27, "Whether a GIFT is GOOD: 1, 0. NONE: no such GIFT.");
        for (int gift : NO_GIFTS) {
            asked("good(" + gift + ")", TrialBoundsTests::lived, y -> y.good(gift), NONE);
        }
        asked("good(0), no FAMILY", TrialBoundsTests::fresh, y -> y.good(0), NONE);
        due("without members", limited("to children c when years 99", 13, 14).good(0), 1);
        due("with some", limited("to children c when years 99", 14, 14).good(0), 0);
    }

    static int goodBy(String gift, int period) {
        LaterLives x = made(THREE, gift);
        x.period(period);
        return x.good(0);
    }

    /** a; b; c of AGE age; THE LIMIT is told. */
    static LaterLives limited(String gift, int limit, int age) {
        LaterLives x = made("a 99; b 60 of a; c " + age, gift);
        x.limit(limit);
        return x;
    }

    static void vestedAtFirst() {
        says(27, "(If as of YEAR 0, all LIVES living, a LIFE in its CLASS has VESTED, SORT 0 counts alone");
        due("c is 5", three("reaches 5").good(0), 1);
        due("c isn't 6", three("reaches 6").good(0), 0);
        due("years 0", three("years 0").good(0), 1);
        due("years 1", three("years 1").good(0), 0);
        due("born", three("born").good(0), 1);
        due("a is 60", three("a reaches 60").good(0), 1);
        due("a isn't 61", three("a reaches 61").good(0), 0);
        due("after 0", three("after 0 born").good(0), 1);
        due("after 1", three("after 1 born").good(0), 0);
        due("both", three("born and reaches 6").good(0), 0);
        due("one of them", three("reaches 6 or born").good(0), 1);
        due("SORT 0 may be bad", three("reaches 5 and years 0 or years 50").good(0), 1);
        due("another sort of CLASS", made(THREE, "to children a when reaches 30").good(0), 1);
        due("another sort of CLASS", made(THREE, "to children a when reaches 31").good(0), 0);
        due("one of two", made("a 60; b 30 of a; c 20 of a", "to children a when reaches 30").good(0), 1);
        due("one of two, the last", made("a 60; b 20 of a; c 30 of a", "to children a when reaches 30").good(0), 1);
        due("none of two", made("a 60; b 29 of a; c 20 of a", "to children a when reaches 30").good(0), 0);
        due("one not in the CLASS", made("a 60; b 30; c 20 of a", "to children a when reaches 30").good(0), 0);
        due("no LIFE in the CLASS", made("a 60", "to children a when years 22 or born").good(0), 1);
        due("no LIFE in the CLASS", made("a 60", "to children a when years 22").good(0), 0);
        LaterLives x = made(THREE, "to children a when dies a and reaches 22", "to children a when dies a or reaches 30");
        x.death(0);
        due("a died in fact, in YEAR 0", x.good(0), 0);
        due("b is 30", x.good(1), 1);
        says(27, "here and for CARRIERS, WAYS, LOWERED, WITNESS, lates(), worst(); behind(), soonest(), course() tell of all SORTS.)");
        for (int age = 5; age <= 6; age++) {
            x = three("reaches " + age);
            boolean alone = age == 5;
            due("good, " + age, x.good(0), alone ? 1 : 0);
            due("carriers, " + age, x.carriers(0), alone ? 0 : NONE);
            due("ways, " + age, x.ways(0), alone ? 1 : 0);
            due("lowered, " + age, x.lowered(0), alone ? 99 : 5);
            x.period(0);
            due("witness, " + age, x.witness(0), alone ? NONE : 0);
            // not EARLY by all sets but that of a and b; EARLY by all LIVES
            due("lates, " + age, x.lates(0), alone ? 0 : 8);
            due("worst sort, " + age, x.worst(0, 0), alone ? 0 : 2);
            due("worst life, " + age, x.worst(0, 1), alone ? 2 : 0);
            due("worst, " + age, x.worst(0, 2), alone ? 0 : NONE);
            due("behind, " + age, x.behind(0, 2, 0, 7), NONE);
            due("behind, " + age, x.behind(0, 1, 1, 7), age);
            due("soonest, " + age, x.soonest(0, 2, 0), 14 + age);
            due("soonest, " + age, x.soonest(0, 1, 1), 1 + age);
            due("course, " + age, x.course(0, 2, 0, 0), 90 + age);
            due("course, " + age, x.course(0, 1, 1, 7), 1 + age);
        }
    }

    static void limits() {
        says(12, "a LIFE of an AGE above it has no more children in THE TEST: no SORT 1 by it, no SORT 2 where it is told");
        for (int limit = 29; limit <= 31; limit++) {
            LaterLives x = made(THREE, "to children b when years 22", "to grandchildren a when years 22", "to grandchildren b when years 22",
                "to b when born", "to children b when reaches 22 and years 6");
            x.limit(limit);
            boolean can = limit >= 30;
            due("SORT 1 of children", x.behind(0, 1, 1, 7), can ? 22 : -2);
            due("SORT 1 of grandchildren", x.behind(1, 1, 1, 7), can ? 22 : -2);
            due("SORT 1 of a child of 5", x.behind(2, 1, 2, 7), 22);
            due("SORT 2", x.behind(2, 2, 1, 7), can ? NONE : -2);
            due("SORT 2 of one of 60", x.behind(1, 2, 0, 7), -2);
            due("SORT 0", x.behind(1, 0, 2, 7), 22);
            due("soonest", x.soonest(0, 1, 1), can ? 22 : NONE);
            due("course", x.course(0, 1, 1, 0), can ? 60 : -3);
            due("worst of SORT 2 or 0", x.worst(2, 2), can ? NONE : 22);
            due("witness of SORT 1", x.witness(4), can ? 0 : NONE);
            due("SORT 1 late: b in YEAR 60, not EARLY; all in YEAR 1", x.lates(4), can ? 4 + 2 : 0);
        }
        LaterLives x = made("a 99; b 86 of a; c 13; d 14; e 0 of d", "to children a when dies a", "to children c when dies c",
            "to children d when dies d", "to children e when dies e");
        due("99 by 99", x.behind(0, 1, 0, 31), 0);
        x.limit(98);
        due("99 by 98", x.behind(0, 1, 0, 31), -2);
        x.limit(13);
        due("13 by 13", x.behind(1, 1, 2, 31), 0);
        due("14 by 13", x.behind(2, 1, 3, 31), -2);
        due("0 by 13", x.behind(3, 1, 4, 31), 0);
        x.pass(50);
        due("YEARS since don't count", x.behind(1, 1, 2, 31), 0);
    }

    // ---- 28: BEHIND

    /** H of an E for a member; HIDDEN for S, which "or years 99" shows, where it is below 99. */
    static void numbers(String e, int sort, int life, int lives, int h, int s) {
        due("H of " + e + " for " + sort + ", " + life + " by " + lives, three(e).behind(0, sort, life, lives), h);
        due("S of " + e + " for " + sort + ", " + life + " by " + lives, three("(" + e + ") or years 99").behind(0, sort, life, lives),
            s == NONE ? 99 : s);
    }

    static void twoNumbers() {
        says(28, "years N: both N. dies: both 0, if that LIFE counts, else ever.");
        numbers("years 0", 0, 2, 0, 0, 0);
        numbers("years 1", 0, 2, 0, 1, 1);
        numbers("years 99", 0, 2, 7, 99, 99);
        numbers("dies b", 0, 2, 2, 0, 0);
        numbers("dies b", 0, 2, 7, 0, 0);
        numbers("dies b", 0, 2, 5, NONE, NONE);
        numbers("dies a", 0, 2, 6, NONE, NONE);
        numbers("dies c", 0, 2, 4, 0, 0);
        numbers("dies c", 0, 2, 0, NONE, NONE);
        says(28, "born: of a LIFE both 0; of SORT 1 both 0, if its parent counts, else ever; of SORT 2 both ever.");
        numbers("born", 0, 2, 0, 0, 0);
        numbers("born", 1, 1, 2, 0, 0);
        due("SORT 1, its parent doesn't count", three("born or years 99").behind(0, 1, 1, 5), NONE);
        due("SORT 1, its parent doesn't count", three("years 0").behind(0, 1, 1, 0), NONE);
        due("SORT 2", three("years 0").behind(0, 2, 0, 7), NONE);
        due("SORT 2", three("born or years 99").behind(0, 2, 0, 7), NONE);
        says(28, "both 0, if g is N or more; else H is N less g, 0 if it counts; S is ever");
        for (int lives = 0; lives <= 4; lives += 4) {
            numbers("reaches 0", 0, 2, lives, 0, 0);
            numbers("reaches 4", 0, 2, lives, 0, 0);
            numbers("reaches 5", 0, 2, lives, 0, 0);
            numbers("reaches 6", 0, 2, lives, lives == 4 ? 0 : 1, NONE);
            numbers("reaches 99", 0, 2, lives, lives == 4 ? 0 : 94, NONE);
            numbers("c reaches 6", 0, 2, lives, lives == 4 ? 0 : 1, NONE);
        }
        for (int lives = 0; lives <= 7; lives++) {
            boolean counts = (lives & 2) != 0;
            numbers("b reaches 29", 0, 2, lives, 0, 0);
            numbers("b reaches 30", 0, 2, lives, 0, 0);
            numbers("b reaches 31", 0, 2, lives, counts ? 0 : 1, NONE);
            numbers("b reaches 99", 0, 2, lives, counts ? 0 : 69, NONE);
        }
        numbers("c reaches 6", 1, 1, 2, 1, NONE);
        numbers("c reaches 6", 1, 1, 6, 0, NONE);
        numbers("c reaches 5", 1, 1, 2, 0, 0);
        says(28, "reaches N of SORTS 1, 2: H is N more than born's, S is ever (N 0: as born).");
        numbers("reaches 0", 1, 1, 2, 0, 0);
        numbers("reaches 1", 1, 1, 2, 1, NONE);
        numbers("reaches 99", 1, 1, 2, 99, NONE);
        due("its parent doesn't count", three("reaches 0").behind(0, 1, 1, 5), NONE);
        due("its parent doesn't count", three("reaches 1").behind(0, 1, 1, 5), NONE);
        due("SORT 2", three("reaches 0").behind(0, 2, 0, 7), NONE);
    }

    static void joints() {
        says(28, "(behind YEAR 0, if none counts)");
        numbers("years 7", 0, 2, 0, 7, 7);
        numbers("reaches 12", 0, 2, 0, 7, NONE);
        numbers("b reaches 37", 0, 2, 0, 7, NONE);
        numbers("after 7 born", 0, 2, 0, 7, 7);
        numbers("dies a", 0, 2, 0, NONE, NONE);
        says(28, "after N F: both N more than F's.");
        numbers("after 0 years 5", 0, 2, 0, 5, 5);
        numbers("after 4 years 5", 0, 2, 0, 9, 9);
        numbers("after 4 dies b", 0, 2, 2, 4, 4);
        numbers("after 4 reaches 6", 0, 2, 0, 5, NONE);
        numbers("after 4 reaches 6", 0, 2, 4, 4, NONE);
        numbers("after 4 b reaches 31", 0, 2, 2, 4, NONE);
        numbers("after 4 born", 1, 1, 2, 4, 4);
        numbers("after 4 reaches 5", 0, 2, 0, 4, 4);
        due("198", three("after 99 years 99").behind(0, 0, 2, 0), 198);
        due("594", three(times("after 99 ", 5) + "years 99").behind(0, 0, 2, 0), 594);
        says(28, "(Ever and N: ever.)");
        numbers("after 0 dies b", 0, 2, 0, NONE, NONE);
        due("ever and 495", three(times("after 99 ", 5) + "dies b").behind(0, 0, 2, 0), NONE);
        says(28, "and: of both numbers the greater one. or: S the lesser S; H the greater H, but no more than that S.");
        numbers("years 3 and years 8", 0, 2, 0, 8, 8);
        numbers("years 8 and years 3", 0, 2, 0, 8, 8);
        numbers("years 3 and dies b", 0, 2, 0, NONE, NONE);
        numbers("reaches 6 and years 8", 0, 2, 0, 8, NONE);
        numbers("years 8 and reaches 6", 0, 2, 4, 8, NONE);
        numbers("reaches 14 and years 8", 0, 2, 0, 9, NONE);
        numbers("years 3 or years 8", 0, 2, 0, 3, 3);
        numbers("years 8 or years 3", 0, 2, 0, 3, 3);
        numbers("years 8 or dies b", 0, 2, 0, 8, 8);
        numbers("dies b or years 8", 0, 2, 0, 8, 8);
        numbers("dies b or dies a", 0, 2, 0, NONE, NONE);
        numbers("dies b or dies a", 0, 2, 1, 0, 0);
        numbers("reaches 13 or years 8", 0, 2, 0, 8, 8);
        numbers("reaches 14 or years 8", 0, 2, 0, 8, 8);
        numbers("reaches 12 or years 8", 0, 2, 0, 8, 8);
        numbers("reaches 14 or reaches 12", 0, 2, 0, 9, NONE);
        numbers("reaches 12 or reaches 14", 0, 2, 0, 9, NONE);
        numbers("reaches 99 or years 94", 0, 2, 0, 94, 94);
        numbers("reaches 99 or years 95", 0, 2, 0, 95, 95);
        numbers("years 2 or reaches 99 or years 7", 0, 2, 0, 2, 2);
        numbers("reaches 99 or years 7 or years 2", 0, 2, 0, 2, 2);
        numbers("years 8 and (reaches 99 or years 2)", 0, 2, 0, 8, 8);
        numbers("after 3 (reaches 99 or years 2)", 0, 2, 0, 5, 5);
        numbers("years 4 and years 9 or years 3 and years 6", 0, 2, 0, 6, 6);
        says(28, "BEHIND of a member: the greater H of its E and born.");
        due("SORT 1: born", three("years 4").behind(0, 1, 1, 1), NONE);
        due("SORT 1: born", three("years 0").behind(0, 1, 1, 2), 0);
        due("SORT 1: its E", three("years 4").behind(0, 1, 1, 2), 4);
    }

    static void whichMembers() {
        says(28, "Of several parents of SORT 1 each is a member of its own.");
        LaterLives two = made("a 60; b 30 of a; c 29 of a", "to grandchildren a when born");
        due("by b", two.behind(0, 1, 1, 2), 0);
        due("by c", two.behind(0, 1, 2, 2), NONE);
        due("by b", two.behind(0, 1, 1, 4), NONE);
        due("by c", two.behind(0, 1, 2, 4), 0);
        says(28, "NONE: ever; -2: it is no member; HIDDEN: no such GIFT, SORT, LIFE, LIVES.");
        says(28, "SORT 1 of children: of the LIFE told; of grandchildren: of each LIFE that is its child (none without).");
        String[] gifts = {"to b when born", "to children a when born", "to grandchildren a when born", "to children d when born",
            "to grandchildren d when born"};
        // by GIFT: the LIVES by which a member of SORT 0, 1, 2 is there, as bits
        int[][] there = {{2, 0, 0}, {2 + 16, 1, 0}, {4, 2 + 16, 1}, {0, 8, 0}, {0, 0, 8}};
        LaterLives x = made("a 60; b 30 of a; c 5 of b; d 20; e 25 of a", gifts);
        LaterLives y = made("a 60; b 30 of a; c 5 of b; d 20; e 25 of a", gifts);
        for (int g = 0; g < 5; g++) {
            for (int sort = 0; sort < 3; sort++) {
                for (int life = 0; life < 5; life++) {
                    boolean member = (there[g][sort] >> life & 1) == 1;
                    String which = g + ", " + sort + ", " + life;
                    due("behind " + which, x.behind(g, sort, life, 31), member ? sort == 2 ? NONE : 0 : -2);
                    due("soonest " + which, x.soonest(g, sort, life), member ? new int[] {0, 1, 14}[sort] : NONE);
                    due("course " + which, y.course(g, sort, life, 256), member ? new int[] {0, 1, 31}[sort] : -3);
                }
            }
        }
        for (int gift : NO_GIFTS) {
            asked("behind(" + gift + ", 0, 1, 0)", TrialBoundsTests::lived, z -> z.behind(gift, 0, 1, 0), HIDDEN);
        }
        for (int sort : new int[] {-1, 3, 4, MIN, MAX}) {
            asked("SORT " + sort, TrialBoundsTests::lived, z -> z.behind(0, sort, 1, 0), HIDDEN);
        }
        for (int life : new int[] {-1, 4, 5, 8, MIN, MAX}) {
            asked("LIFE " + life, TrialBoundsTests::lived, z -> z.behind(0, 0, life, 0), HIDDEN);
            asked("LIFE " + life + " of SORT 1", TrialBoundsTests::lived, z -> z.behind(0, 1, life, 0), HIDDEN);
        }
        for (int lives : new int[] {-1, 16, 17, 255, 256, MIN, MAX}) {
            asked("LIVES " + lives, TrialBoundsTests::lived, z -> z.behind(0, 0, 1, lives), HIDDEN);
            asked("LIVES " + lives + ", no member", TrialBoundsTests::lived, z -> z.behind(0, 0, 0, lives), HIDDEN);
        }
        asked("all LIVES", TrialBoundsTests::lived, z -> z.behind(0, 0, 1, 15), 0);
        asked("no LIVES", TrialBoundsTests::lived, z -> z.behind(0, 0, 1, 0), 10);
        asked("no member", TrialBoundsTests::lived, z -> z.behind(0, 0, 0, 15), -2);
        asked("no FAMILY", TrialBoundsTests::fresh, z -> z.behind(0, 0, 0, 0), HIDDEN);
        x = made(EIGHT, "to h when reaches 9", "to h when dies g", "to a when dies h");
        due("all eight", x.behind(0, 0, 7, 255), 0);
        due("h alone", x.behind(0, 0, 7, 128), 0);
        due("all but h", x.behind(0, 0, 7, 127), 8);
        due("all but g", x.behind(1, 0, 7, 191), NONE);
        due("h", x.behind(2, 0, 0, 128), 0);
        due("256", x.behind(0, 0, 7, 256), HIDDEN);
        x = made("a 60", "to a when reaches 61");
        due("of one LIFE", x.behind(0, 0, 0, 1), 0);
        due("of one LIFE", x.behind(0, 0, 0, 0), 1);
        due("2", x.behind(0, 0, 0, 2), HIDDEN);
    }

    // ---- 29: SOONEST

    static void soonestOf(String e, int life, int child, int grandchild) {
        LaterLives x = three(e);
        due("SORT 0, " + e, x.soonest(0, 0, 2), life);
        due("SORT 1, " + e, x.soonest(0, 1, 1), child);
        due("SORT 2, " + e, x.soonest(0, 2, 0), grandchild);
    }

    static void soonest() {
        says(29, "years N: N; dies: 0; born: 0, 1, 14 by SORTS");
        soonestOf("years 0", 0, 1, 14);
        soonestOf("years 1", 1, 1, 14);
        soonestOf("years 2", 2, 2, 14);
        soonestOf("years 14", 14, 14, 14);
        soonestOf("years 15", 15, 15, 15);
        soonestOf("years 99", 99, 99, 99);
        soonestOf("dies b", 0, 1, 14);
        soonestOf("born", 0, 1, 14);
        says(29, "reaches N: of a LIFE N less its AGE (0 at least), else N more than born's; NAME reaches N: as of a LIFE");
        soonestOf("reaches 0", 0, 1, 14);
        soonestOf("reaches 4", 0, 5, 18);
        soonestOf("reaches 5", 0, 6, 19);
        soonestOf("reaches 6", 1, 7, 20);
        soonestOf("reaches 99", 94, 100, 113);
        soonestOf("b reaches 0", 0, 1, 14);
        soonestOf("b reaches 30", 0, 1, 14);
        soonestOf("b reaches 31", 1, 1, 14);
        soonestOf("b reaches 32", 2, 2, 14);
        soonestOf("b reaches 45", 15, 15, 15);
        soonestOf("b reaches 99", 69, 69, 69);
        says(29, "after N F: N more than F's; and: the greater; or: the lesser; of a member the greater of its E and born");
        soonestOf("after 0 dies b", 0, 1, 14);
        soonestOf("after 1 dies b", 1, 1, 14);
        soonestOf("after 20 dies b", 20, 20, 20);
        soonestOf("after 20 born", 20, 21, 34);
        soonestOf(times("after 99 ", 5) + "reaches 99", 589, 595, 608);
        soonestOf("years 20 and years 30", 30, 30, 30);
        soonestOf("years 30 and years 20", 30, 30, 30);
        soonestOf("years 20 or years 30", 20, 20, 20);
        soonestOf("years 30 or years 20", 20, 20, 20);
        soonestOf("years 30 or dies b", 0, 1, 14);
        soonestOf("after 30 (years 4 or reaches 5)", 30, 34, 34);
        says(29, "NONE: it is no member; HIDDEN: no such ones.");
        for (int gift : NO_GIFTS) {
            asked("soonest(" + gift + ", 0, 1)", TrialBoundsTests::lived, z -> z.soonest(gift, 0, 1), HIDDEN);
        }
        for (int sort : new int[] {-1, 3, 4, MIN, MAX}) {
            asked("SORT " + sort, TrialBoundsTests::lived, z -> z.soonest(0, sort, 1), HIDDEN);
        }
        for (int life : new int[] {-1, 4, 5, 8, MIN, MAX}) {
            asked("LIFE " + life, TrialBoundsTests::lived, z -> z.soonest(0, 0, life), HIDDEN);
        }
        asked("no member", TrialBoundsTests::lived, z -> z.soonest(0, 0, 3), NONE);
        asked("no FAMILY", TrialBoundsTests::fresh, z -> z.soonest(0, 0, 0), HIDDEN);
    }

    // ---- 30 to 32: CARRIERS, WAYS, LOWERED

    static String all(String joint) {
        StringBuilder b = new StringBuilder("dies a");
        for (char c = 'b'; c <= 'h'; c++) {
            b.append(joint).append("dies ").append(c);
        }
        return b.toString();
    }

    static void carriers() {
        says(30, "the fewest LIVES by which, these alone counting, it is GOOD (of several the least as bits)");
        due("none", made(EIGHT, "to a when years 21").carriers(0), 0);
        due("all", made(EIGHT, "to a when " + all(" and ")).carriers(0), 255);
        due("one of eight: the least", made(EIGHT, "to a when " + all(" or ")).carriers(0), 1);
        due("the last", made(EIGHT, "to a when dies h").carriers(0), 128);
        due("two of the last", made(EIGHT, "to a when dies g and dies h").carriers(0), 192);
        due("one for two", made(EIGHT, "to a when dies a and dies b or dies h").carriers(0), 128);
        due("two for three", made(EIGHT, "to a when dies a and dies b and dies c or dies g and dies h").carriers(0), 192);
        due("of two pairs the least", made(EIGHT, "to a when dies g and dies h or dies a and dies f").carriers(0), 33);
        due("of two pairs the least as bits", made(EIGHT, "to a when dies a and dies h or dies b and dies c").carriers(0), 6);
        due("AGE 1, reaches 22", made(EIGHT, "to c when reaches 22").carriers(0), 0);
        due("AGE 1, reaches 23", made(EIGHT, "to c when reaches 23").carriers(0), 4);
        due("after 21", made(EIGHT, "to c when after 21 dies d").carriers(0), 8);
        due("children", made(EIGHT, "to children h when reaches 21").carriers(0), 128);
        due("one LIFE", made("a 60", "to a when dies a").carriers(0), 1);
        says(30, "CARRIERS (bits). NONE: it isn't GOOD, no such GIFT.");
        due("after 22", made(EIGHT, "to c when after 22 dies d").carriers(0), NONE);
        due("years 22", made(EIGHT, "to c when years 22").carriers(0), NONE);
        due("SORT 2", made(EIGHT, "to grandchildren c when born").carriers(0), NONE);
        due("without members", limited("to children c when years 99", 13, 14).carriers(0), 0);
        for (int gift : NO_GIFTS) {
            asked("carriers(" + gift + ")", TrialBoundsTests::lived, y -> y.carriers(gift), NONE);
            asked("ways(" + gift + ")", TrialBoundsTests::lived, y -> y.ways(gift), NONE);
            asked("lowered(" + gift + ")", TrialBoundsTests::lived, y -> y.lowered(gift), NONE);
        }
        asked("no FAMILY", TrialBoundsTests::fresh, y -> y.carriers(0), NONE);
        asked("no FAMILY", TrialBoundsTests::fresh, y -> y.ways(0), NONE);
        asked("no FAMILY", TrialBoundsTests::fresh, y -> y.lowered(0), NONE);
    }

    static void ways() {
        says(31, "WAYS that are GOOD (bits, the first T's the lowest). NONE: no such GIFT.");
        says(31, "the Ts of its E (not within others), each as an E of its own: which are GOOD");
        for (int good = 0; good < 16; good++) {
            StringBuilder e = new StringBuilder();
            for (int i = 0; i < 16; i++) {
                e.append(i > 0 ? " or " : "").append(i == good ? "years 21" : "years 22");
            }
            due("the T " + good, made(THREE, "to c when " + e).ways(0), 1 << good);
        }
        due("all 16", made(THREE, "to c when years 21" + times(" or years 0", 15)).ways(0), 65535);
        due("none of 16", made(THREE, "to c when years 22" + times(" or years 99", 15)).ways(0), 0);
        due("one of one", made(THREE, "to c when years 21").ways(0), 1);
        due("none of one", made(THREE, "to c when years 22").ways(0), 0);
        due("within another", made(THREE, "to c when (years 22 or years 21)").ways(0), 1);
        due("within others", made(THREE, "to c when (years 22 or years 23) or years 21 and (years 1 or years 22)").ways(0), 2);
        due("and", made(THREE, "to c when years 21 and years 22 or years 1 and years 21").ways(0), 2);
        due("each by itself: VESTED at first by one alone", three("born or reaches 6").ways(0), 1);
        due("each by itself: the E is GOOD", three("reaches 6 or born").good(0), 1);
        due("SORT 0 alone for a T", three("reaches 5 or reaches 6 and dies a").ways(0), 1);
        LaterLives x = made(THREE, "to c when years 21 or years 22 or years 23");
        for (int period = 20; period <= 23; period++) {
            x.period(period);
            due("by PERIOD " + period, x.ways(0), (1 << period - 20) - 1);
        }
        due("without members", limited("to children c when years 99 or years 98", 13, 14).ways(0), 3);
    }

    static void lowered() {
        says(32, "LOWERED: the greatest n. NONE: none, no such GIFT.");
        says(32, "each N of reaches above n is n: the greatest n, 0 to 99, by which it is GOOD");
        due("GOOD with reaches 99", made(THREE, "to c when reaches 99").lowered(0), 99);
        due("GOOD without one", made(THREE, "to c when years 21").lowered(0), 99);
        due("bad without one", made(THREE, "to c when years 22").lowered(0), NONE);
        for (int n : new int[] {0, 20, 21, 22, 23, 98, 99}) {
            due("reaches " + n, made(THREE, "to children c when reaches " + n).lowered(0), n <= 21 ? 99 : 21);
            LaterLives x = made(THREE, "to children c when reaches " + n);
            x.period(0);
            due("reaches " + n + " by PERIOD 0", x.lowered(0), n == 0 ? 99 : 0);
            x.period(98);
            due("reaches " + n + " by PERIOD 98", x.lowered(0), n == 99 ? 98 : 99);
            x.period(99);
            due("reaches " + n + " by PERIOD 99", x.lowered(0), 99);
        }
        due("to 0", made(THREE, "to children c when after 21 reaches 9").lowered(0), 0);
        due("to 1", made(THREE, "to children c when after 20 reaches 9").lowered(0), 1);
        due("not even to 0", made(THREE, "to children c when after 22 reaches 9").lowered(0), NONE);
        due("N of after stays", made(THREE, "to children c when after 15 reaches 9").lowered(0), 6);
        due("N of years stays", made(THREE, "to children c when years 22 and reaches 9").lowered(0), NONE);
        due("each N", made(THREE, "to children c when reaches 30 and reaches 99 and reaches 5").lowered(0), 21);
        due("an N below stays", made(THREE, "to children c when after 18 reaches 3 and reaches 40").lowered(0), 21);
        due("an N below is lowered, too", made(THREE, "to children c when after 19 reaches 3 and reaches 40").lowered(0), 2);
        due("within others", made(THREE, "to children c when after 1 (after 2 (reaches 50))").lowered(0), 18);
        due("SORT 0 alone then", three("reaches 99").lowered(0), 5);
        due("SORT 2", made(THREE, "to grandchildren c when reaches 5").lowered(0), NONE);
        due("NAME reaches N", made(THREE, "to c when years 30 or c reaches 40").lowered(0), 5);
        due("without members", limited("to children c when years 99", 13, 14).lowered(0), 99);
    }

    // ---- 33 to 35: COURSES

    static int witnessBy(String family, String gift, int period) {
        LaterLives x = made(family, gift);
        x.period(period);
        return x.witness(0);
    }

    static void witness() {
        says(33, "WITNESS. NONE: none, no such GIFT.");
        says(33, "LATE, if above the last LIFE's death and PERIOD");
        due("60 by 60", witnessBy("a 60", "to a when years 60", 0), 1);
        due("61 by 60", witnessBy("a 60", "to a when years 61", 0), 0);
        due("61 by 61", witnessBy("a 60", "to a when years 61", 1), 1);
        due("61 by 1 and 59", witnessBy("a 60", "to a when years 61", 59), 1);
        due("61 by 1 and 60", witnessBy("a 60", "to a when years 61", 60), NONE);
        due("1 by 1", witnessBy("a 60", "to a when years 1", 0), NONE);
        due("2 by 1", witnessBy("a 60", "to a when years 2", 0), 1);
        due("all but one in YEAR 1", witnessBy("a 60; b 50", "to a when years 2", 0), 3);
        due("all of eight in YEAR 1", witnessBy(EIGHT, "to a when years 60", 0), 255);
        due("one of eight in YEAR 60", witnessBy(EIGHT, "to a when years 61", 0), 0);
        due("the last death and 1", witnessBy("a 60", "to a when after 1 dies a", 0), 0);
        due("the last death", witnessBy("a 60", "to a when dies a", 0), NONE);
        says(33, "the least number (the set, by LIVES there are; EARLY 256 more) by which a member of a SORT that is there is LATE");
        due("a in 60, b in 1: a + 1", witnessBy("a 60; b 50", "to b when after 1 dies a", 0), 0);
        due("a has died in 1, b in 60", witnessBy("a 60; b 50", "to b when after 60 dies a and dies b", 0), 0);
        due("the greater of both", witnessBy("a 60; b 50", "to b when after 59 dies a", 59), NONE);
        due("b reaches 51 in 1, dead or not", witnessBy("a 60; b 50", "to b when b reaches 51 and years 2", 0), 3);
        due("b reaches 52 in 2, if not dead in 1: a in 1, too, doesn't help", witnessBy("a 60; b 50", "to b when b reaches 52", 0), NONE);
        due("SORT 1 at the parent's death", witnessBy("a 60", "to children a when reaches 1", 0), 0);
        due("SORT 1, EARLY at 1", witnessBy("a 60", "to children a when reaches 60", 59), 0);
        due("SORT 1, born in 60 or 1", witnessBy("a 60", "to children a when reaches 60", 60), NONE);
        due("SORT 2, 30 YEARS behind", witnessBy("a 60", "to grandchildren a when born", 29), 0);
        due("SORT 2, 30 YEARS behind", witnessBy("a 60", "to grandchildren a when born", 30), NONE);
        due("SORT 2 alone", witnessBy("a 60; b 5", "to grandchildren b when reaches 1", 30), 0);
        LaterLives x = made("a 60", "to grandchildren a when born");
        x.limit(59);
        due("no SORT 2 by THE LIMIT", x.witness(0), NONE);
        due("no SORT 2 by THE LIMIT", x.lates(0), 0);
        x.limit(60);
        due("SORT 2", x.witness(0), 0);
        due("by all four", x.lates(0), 2 + 1);
        x = made("a 60; b 50; c 7", "to children a when after 99 after 99 after 99 after 48 (born and dies b) and a reaches 80");
        due("a in 60, b in 1, EARLY: 346", x.witness(0), 258);
        due("c in 1, too", x.lates(0), 2);
        x = made("a60;b50;c1;d1;e1;f1;g1;h50", "to children a when after 99 after 99 after 99 after 48 (born and dies b and dies c and "
            + "dies d and dies e and dies f and dies g and dies h) and a reaches 80");
        due("a in 60, all others in 1, EARLY", x.witness(0), 510);
        due("by this one alone", x.lates(0), 1);
        says(35, "By how many COURSES (each set of LIVES, EARLY or not) a member of a SORT that is there is LATE. NONE: no such GIFT.");
        x = made(EIGHT, "to a when years 23", "to a when years 82", "to a when years 81", "to a when years 22",
            "to a when after 22 dies h");
        int[] lates = {2, 512, 2, 0, 256 + 2};
        for (int g = 0; g < lates.length; g++) {
            due("by how many, " + g, x.lates(g), lates[g]);
        }
        x = made("a 60", "to a when years 82", "to a when years 81", "to a when years 23", "to a when years 22");
        due("of four", x.lates(0) * 1000 + x.lates(1) * 100 + x.lates(2) * 10 + x.lates(3), 4220);
        for (int gift : NO_GIFTS) {
            asked("witness(" + gift + ")", TrialBoundsTests::lived, y -> y.witness(gift), NONE);
            asked("lates(" + gift + ")", TrialBoundsTests::lived, y -> y.lates(gift), NONE);
        }
        asked("no FAMILY", TrialBoundsTests::fresh, y -> y.witness(0), NONE);
        asked("no FAMILY", TrialBoundsTests::fresh, y -> y.lates(0), NONE);
    }

    static void courses() {
        says(34, "a set of LIVES (bits) that die in YEAR 1, all others in YEAR 60; EARLY: births in YEAR 1; else in the YEAR of the parent's death");
        LaterLives x = made(THREE, "to grandchildren a when born", "to grandchildren a when dies a", "to children b when dies c",
            "to c when dies a and dies b or dies c and dies b");
        int[][] born = {{0, 60, 90}, {0, 60, 31}, {0, 1, 90}, {0, 1, 31}};
        for (int course = 0; course < 4; course++) {
            for (int sort = 0; sort < 3; sort++) {
                due("born, SORT " + sort + " by " + course, x.course(0, sort, 2 - sort, course), born[course][sort]);
                due("EARLY, SORT " + sort + " by " + course, x.course(0, sort, 2 - sort, 256 + course), new int[] {0, 1, 31}[sort]);
            }
            due("dies a by " + course, x.course(1, 0, 2, course), (course & 1) == 1 ? 1 : 60);
            due("dies a, SORT 1, " + course, x.course(1, 1, 1, course), course == 3 ? 1 : 60);
        }
        due("all in YEAR 1", x.course(3, 0, 2, 7), 1);
        due("b, c in YEAR 1", x.course(3, 0, 2, 6), 1);
        due("a, c in YEAR 1", x.course(3, 0, 2, 5), 60);
        says(34, "these never die");
        due("SORT 1 reaches 99", made(THREE, "to children b when reaches 99").course(0, 1, 1, 7), 100);
        due("SORT 2 reaches 99", made(THREE, "to grandchildren b when reaches 99").course(0, 2, 1, 0), 189);
        says(34, "The member of SORT 1 is born so to its parent, that of SORT 2 30 YEARS behind a child that is born so to the LIFE told");
        x = made("a 60; b 30 of a; c 29 of a", "to grandchildren a when born");
        for (int course = 0; course < 8; course++) {
            due("SORT 1 by b, " + course, x.course(0, 1, 1, course), (course & 2) != 0 ? 1 : 60);
            due("SORT 1 by c, " + course, x.course(0, 1, 2, course), (course & 4) != 0 ? 1 : 60);
            due("SORT 2 by a, " + course, x.course(0, 2, 0, course), (course & 1) != 0 ? 31 : 90);
            due("SORT 1 by c, EARLY, " + course, x.course(0, 1, 2, 256 + course), 1);
            due("SORT 2 by a, EARLY, " + course, x.course(0, 2, 0, 256 + course), 31);
        }
        says(34, "A member VESTS by that, as of YEAR 400");
        says(34, "the YEAR in which a member (told as in behind()) VESTS. NONE: NOT YET by YEAR 400; -2: NEVER; -3: it is no member");
        due("400", made(THREE, "to c when " + times("after 99 ", 4) + "years 4").course(0, 0, 2, 0), 400);
        due("401", made(THREE, "to c when " + times("after 99 ", 4) + "years 5").course(0, 0, 2, 0), NONE);
        due("dead in 1 at 6, reaches 6", made(THREE, "to c when reaches 6").course(0, 0, 2, 4), 1);
        due("dead in 1 at 6, reaches 7", made(THREE, "to c when reaches 7").course(0, 0, 2, 4), -2);
        due("dead in 60 at 65, reaches 65", made(THREE, "to c when reaches 65").course(0, 0, 2, 3), 60);
        due("dead in 60 at 65, reaches 66", made(THREE, "to c when reaches 66").course(0, 0, 2, 3), -2);
        due("in the YEAR of birth, if later", made(THREE, "to children b when years 59").course(0, 1, 1, 0), 60);
        due("in the YEAR of birth, if later", made(THREE, "to children b when years 61").course(0, 1, 1, 0), 61);
        says(34, "HIDDEN: no such ones (LIVES that aren't there, too).");
        String[] families = {"a 60", FOUR, EIGHT};
        int[] sets = {2, 16, 256};
        for (int i = 0; i < 3; i++) {
            String family = families[i];
            int set = sets[i];
            x = made(family, "to a when dies a");
            due("the set of none", x.course(0, 0, 0, 0), 60);
            due("the set of all", x.course(0, 0, 0, set - 1), 1);
            due("the set of none, EARLY", x.course(0, 0, 0, 256), 60);
            due("the set of all, EARLY", x.course(0, 0, 0, 256 + set - 1), 1);
            due("one more, EARLY", x.course(0, 0, 0, 256 + set), HIDDEN);
            due("one more", x.course(0, 0, 0, set), set == 256 ? 60 : HIDDEN);
            due("512", x.course(0, 0, 0, 512), HIDDEN);
            due("511", x.course(0, 0, 0, 511), set == 256 ? 1 : HIDDEN);
        }
        for (int course : new int[] {-1, -256, 16, 255, 272, 511, 512, 1024, 65536, MIN, MAX}) {
            asked("course " + course, TrialBoundsTests::lived, z -> z.course(0, 0, 1, course), HIDDEN);
            asked("course " + course + ", no member", TrialBoundsTests::lived, z -> z.course(0, 0, 0, course), HIDDEN);
        }
        for (int gift : NO_GIFTS) {
            asked("course(" + gift + ", 0, 1, 0)", TrialBoundsTests::lived, z -> z.course(gift, 0, 1, 0), HIDDEN);
        }
        for (int sort : new int[] {-1, 3, 4, MIN, MAX}) {
            asked("SORT " + sort, TrialBoundsTests::lived, z -> z.course(0, sort, 1, 0), HIDDEN);
        }
        for (int life : new int[] {-1, 4, 5, 8, MIN, MAX}) {
            asked("LIFE " + life, TrialBoundsTests::lived, z -> z.course(0, 0, life, 0), HIDDEN);
        }
        asked("no member", TrialBoundsTests::lived, z -> z.course(0, 0, 0, 271), -3);
        asked("no FAMILY", TrialBoundsTests::fresh, z -> z.course(0, 0, 0, 0), HIDDEN);
    }

    // ---- 36, 37

    static void worsts(String what, LaterLives x, int sort, int life, int behind) {
        due(what + ", SORT", x.worst(0, 0), sort);
        due(what + ", life", x.worst(0, 1), life);
        due(what + ", BEHIND", x.worst(0, 2), behind);
    }

    static void worst() {
        says(36, "(all LIVES counting; ever is most; of several by SORTS that are there, then lives)");
        String family = "a 60; b 30 of a; c 29 of a; d 5 of b; e 4 of c";
        worsts("all 9", made(family, "to grandchildren b when years 9"), 2, 1, NONE);
        worsts("SORT 0, the lower of d, e", limited(made(family, "to grandchildren a when years 9"), 13), 0, 3, 9);
        worsts("SORT 0 ahead of SORT 1", limited(made(family, "to grandchildren a when years 9"), 30), 0, 3, 9);
        worsts("SORT 1, the lower of b, c", limited(made(family, "to grandchildren a when reaches 9"), 30), 1, 1, 9);
        worsts("SORT 1, c alone", limited(made(family, "to grandchildren a when reaches 9"), 29), 1, 2, 9);
        worsts("SORT 0 alone: 0", limited(made(family, "to grandchildren a when reaches 9"), 28), 0, 3, 0);
        worsts("SORT 2: ever", made(family, "to grandchildren a when reaches 9"), 2, 0, NONE);
        worsts("e by its own", limited(made("a 60; b 30 of a; c 5 of b; d 29", "to grandchildren a when years 3 and reaches 6"), 13), 0, 2, 3);
        worsts("VESTED at first: SORT 0 alone", made(family, "to grandchildren a when reaches 5"), 0, 3, 0);
        worsts("the first of SORT 0 is worse", made("a 60; b 5 of a; c 10 of a", "to children a when reaches 6 or years 9"), 0, 1, 9);
        worsts("the second of SORT 0 is worse", made("a 60; b 10 of a; c 5 of a", "to children a when reaches 6 or years 9"), 0, 2, 9);
        worsts("to one: 594", made(family, "to b when " + times("after 99 ", 5) + "years 99"), 0, 1, 594);
        worsts("to one: 0", made(family, "to e when dies e"), 0, 4, 0);
        says(36, "HIDDEN: it has none, no such ones.");
        worsts("none", limited("to children c when born", 13, 14), HIDDEN, HIDDEN, HIDDEN);
        worsts("none", limited("to grandchildren c when born", 13, 14), HIDDEN, HIDDEN, HIDDEN);
        for (int what : new int[] {-1, 3, 4, MIN, MAX}) {
            asked("worst(0, " + what + ")", TrialBoundsTests::lived, z -> z.worst(0, what), HIDDEN);
        }
        for (int gift : NO_GIFTS) {
            asked("worst(" + gift + ", 0)", TrialBoundsTests::lived, z -> z.worst(gift, 0), HIDDEN);
        }
        asked("no FAMILY", TrialBoundsTests::fresh, z -> z.worst(0, 0), HIDDEN);
    }

    static LaterLives limited(LaterLives x, int limit) {
        x.limit(limit);
        return x;
    }

    static void firstBad() {
        says(37, "The first GIFT that isn't GOOD. NONE: none.");
        asked("no FAMILY", TrialBoundsTests::fresh, z -> z.firstBad(), NONE);
        asked("no GIFTS", () -> made(FOUR), z -> z.firstBad(), NONE);
        for (int bad = 0; bad < 8; bad++) {
            LaterLives x = made(FOUR);
            for (int i = 0; i < 8; i++) {
                gift(x, i < bad ? "to a when years 21" : "to a when years 22");
            }
            due("the first one that isn't", x.firstBad(), bad);
            due("how many are", x.most(3), bad);
            x.period(22);
            due("none", x.firstBad(), NONE);
            due("all are", x.most(3), 8);
        }
    }

    public static void main(String[] arguments) {
        byPeriod();
        vestedAtFirst();
        limits();
        twoNumbers();
        joints();
        whichMembers();
        soonest();
        carriers();
        ways();
        lowered();
        witness();
        courses();
        worst();
        firstBad();
        covered(27, 37);
        tellHowItWent("bounds of THE TEST: all answers are as due");
    }
}
