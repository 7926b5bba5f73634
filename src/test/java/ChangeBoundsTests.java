import java.util.ArrayDeque;
import java.util.Deque;
import java.util.function.Supplier;

/** The bounds of what changes: YEARS, births, deaths, PERIOD, LIMIT, ACTS, IMAGE, STATUS; promises 8 to 14 and 38 to 43. */
public final class ChangeBoundsTests extends Checks {

    static LaterLives fresh() {
        return new LaterLives();
    }

    static LaterLives lived() {
        return TextBoundsTests.lived();
    }

    /** One LIFE, and so many PERSONS in all, born of it in YEAR 12. */
    static LaterLives crowd(int persons) {
        LaterLives x = made("a 60");
        x.pass(12);
        for (int i = 1; i < persons; i++) {
            due("birth", x.birth(0), i);
        }
        return x;
    }

    static LaterLives at(int year) {
        LaterLives x = made(FOUR);
        for (int left = year; left > 0; left -= 100) {
            x.pass(Math.min(100, left));
        }
        return x;
    }

    // ---- 8: YEARS

    static void years() {
        says(8, "So many YEARS more (1 to 100; up to 399): the YEAR.");
        due("1", at(0).pass(1), 1);
        due("2", at(0).pass(2), 2);
        due("99", at(0).pass(99), 99);
        due("100", at(0).pass(100), 100);
        due("up to 399 by 100", at(299).pass(100), 399);
        due("up to 399 by 99", at(300).pass(99), 399);
        due("up to 399 by 1", at(398).pass(1), 399);
        due("up to 398", at(298).pass(100), 398);
        LaterLives x = at(399);
        due("now", x.rule(0), 399);
        due("an ACT each", x.size(1), 4);
        due("a birth in 399", x.birth(0), 4);
        due("a death in 399", x.death(0), 459);
        says(8, "NONE: no FAMILY (STATUS 0), out of bounds (2).");
        for (int n : new int[] {0, -1, -100, 101, 102, 400, MIN, MAX, MAX - 10, MIN + 10}) {
            refused("pass(" + n + ") in 0", () -> at(0), y -> y.pass(n), NONE, 2);
            refused("pass(" + n + ") in 10", ChangeBoundsTests::lived, y -> y.pass(n), NONE, 2);
            refused("pass(" + n + ") in 399", () -> at(399), y -> y.pass(n), NONE, 2);
            refused("pass(" + n + "), no FAMILY", ChangeBoundsTests::fresh, y -> y.pass(n), NONE, 0);
        }
        refused("400 by 100", () -> at(300), y -> y.pass(100), NONE, 2);
        refused("400 by 99", () -> at(301), y -> y.pass(99), NONE, 2);
        refused("400 by 1", () -> at(399), y -> y.pass(1), NONE, 2);
        refused("499 by 100", () -> at(399), y -> y.pass(100), NONE, 2);
    }

    // ---- 9: births

    static void births() {
        says(9, "A child is born now: its number.");
        LaterLives x = at(1);
        due("in YEAR 1, of LIFE 0", x.birth(0), 4);
        due("its YEAR", person(x, 4, 0), 1);
        due("its PARENT", person(x, 4, 2), 0);
        due("it lives", person(x, 4, 1), HIDDEN);
        due("its age", person(x, 4, 3), 0);
        due("of the last LIFE", x.birth(3), 5);
        due("its PARENT", person(x, 5, 2), 3);
        due("its PARENT's children", person(x, 3, 4), 1);
        due("it is no LIFE", x.rule(7), 4);
        due("nor counted by LIVES that live", x.rule(2), 15);
        due("ACTS", x.size(1), 3);
        says(9, "no such PARENT (1)");
        for (int parent : new int[] {-1, 5, 23, 24, MIN, MAX}) {
            refused("birth(" + parent + ")", ChangeBoundsTests::lived, y -> y.birth(parent), NONE, 1);
            refused("birth(" + parent + "), no FAMILY", ChangeBoundsTests::fresh, y -> y.birth(parent), NONE, 0);
        }
        refused("birth(24) of 24", () -> crowd(24), y -> y.birth(24), NONE, 1);
        refused("birth(-1) of 24", () -> crowd(24), y -> y.birth(-1), NONE, 1);
        refused("birth(4) in YEAR 0", () -> at(0), y -> y.birth(4), NONE, 1);
        says(9, "it is YEAR 0");
        for (int parent = 0; parent < 4; parent++) {
            int one = parent;
            refused("birth(" + parent + ") in YEAR 0", () -> at(0), y -> y.birth(one), NONE, 2);
        }
        refused("dead in YEAR 0, in it", () -> {
            LaterLives y = at(0);
            y.death(0);
            return y;
        }, y -> y.birth(0), NONE, 2);
        x = at(2);
        x.undo();
        refused("YEAR 0 again", () -> {
            LaterLives y = at(2);
            y.undo();
            return y;
        }, y -> y.birth(0), NONE, 2);
        due("YEAR 1 of it", x.pass(1) + x.birth(0), 5);
    }

    static LaterLives aged(int age, int year) {
        LaterLives x = made("a 60; b " + age);
        x.pass(year);
        return x;
    }

    static LaterLives deadSince(int age, int death, int year) {
        LaterLives x = made("a 60; b " + age);
        if (death > 0) {
            x.pass(death);
        }
        x.death(1);
        x.pass(year - death);
        return x;
    }

    static void young() {
        says(9, "the PARENT is younger than 13 by the YEARS since its birth, also if it is dead (2)");
        int[][] young = {{11, 1}, {0, 12}, {5, 7}, {0, 1}};
        for (int[] y : young) {
            refused("AGE " + y[0] + " in YEAR " + y[1], () -> aged(y[0], y[1]), z -> z.birth(1), NONE, 2);
        }
        due("AGE 11 in YEAR 2", aged(11, 2).birth(1), 2);
        due("AGE 12 in YEAR 1", aged(12, 1).birth(1), 2);
        due("AGE 0 in YEAR 13", aged(0, 13).birth(1), 2);
        due("AGE 13 in YEAR 1", aged(13, 1).birth(1), 2);
        due("AGE 99 in YEAR 100", aged(99, 100).birth(1), 2);
        refused("born in 12, 24 now", () -> {
            LaterLives x = crowd(3);
            x.pass(12);
            return x;
        }, y -> y.birth(2), NONE, 2);
        LaterLives x = crowd(3);
        x.pass(13);
        due("born in 12, 25 now", x.birth(2), 3);
        due("born now", x.birth(0), 4);
        refused("born now, of it", () -> crowd(2), y -> y.birth(1), NONE, 2);
        refused("dead at 5, 12 by the YEARS", () -> deadSince(0, 5, 12), y -> y.birth(1), NONE, 2);
        refused("dead at 12, 12 by the YEARS, in that YEAR", () -> {
            LaterLives y = aged(0, 12);
            y.death(1);
            return y;
        }, y -> y.birth(1), NONE, 2);
        refused("dead at 5, 13 by the YEARS", () -> deadSince(0, 5, 13), y -> y.birth(1), NONE, 3);
        refused("dead at 12, 13 by the YEARS", () -> deadSince(0, 12, 13), y -> y.birth(1), NONE, 3);
        says(9, "dead (3; not if it died in this YEAR)");
        x = aged(30, 5);
        x.death(1);
        due("dead in this YEAR", x.birth(1), 2);
        due("twice", x.birth(1), 3);
        refused("dead in the YEAR ahead", () -> deadSince(30, 5, 6), y -> y.birth(1), NONE, 3);
        refused("dead in YEAR 0, YEAR 1", () -> deadSince(30, 0, 1), y -> y.birth(1), NONE, 3);
        refused("dead long ago", () -> deadSince(30, 5, 105), y -> y.birth(1), NONE, 3);
        x = aged(0, 13);
        x.death(1);
        due("dead at 13 in this YEAR", x.birth(1), 2);
    }

    static void noRoom() {
        says(9, "there are 24 (4)");
        LaterLives x = crowd(22);
        due("the 23rd", x.birth(0), 22);
        due("the 24th", x.birth(0), 23);
        due("PERSONS", x.rule(1), 24);
        due("the last one", person(x, 23, 2), 0);
        refused("the 25th", () -> crowd(24), y -> y.birth(0), NONE, 4);
        x = crowd(24);
        x.birth(0);
        x.undo();
        due("one UNDONE", x.birth(0), 23);
        Supplier<LaterLives> dying = () -> {
            LaterLives y = crowd(24);
            y.death(0);
            return y;
        };
        refused("dead in this YEAR, there are 24", dying, y -> y.birth(0), NONE, 4);
        says(9, "of several the first");
        refused("12 years old, there are 24", () -> {
            LaterLives y = crowd(24);
            y.pass(12);
            return y;
        }, y -> y.birth(23), NONE, 2);
        refused("13 years old, there are 24", () -> {
            LaterLives y = crowd(24);
            y.pass(13);
            return y;
        }, y -> y.birth(23), NONE, 4);
        refused("dead, there are 24", () -> {
            LaterLives y = dying.get();
            y.pass(1);
            return y;
        }, y -> y.birth(0), NONE, 3);
        refused("dead and young, there are 24", () -> {
            LaterLives y = crowd(24);
            y.death(7);
            y.pass(12);
            return y;
        }, y -> y.birth(7), NONE, 2);
        says(4, "then those born later (24 in all), numbered as they came");
        x = made("a1;b1;c1;d1;e1;f1;g1;h60");
        x.pass(1);
        for (int i = 8; i < 24; i++) {
            due("of eight LIVES", x.birth(7), i);
        }
        due("the 25th", x.birth(7), NONE);
    }

    // ---- 10: deaths

    static void deaths() {
        says(10, "One dies now: its age.");
        LaterLives x = made("a 99; b 0; c 30 of a");
        due("in YEAR 0, of AGE 0", x.death(1), 0);
        due("in YEAR 0, of AGE 99", x.death(0), 99);
        due("its YEAR", person(x, 0, 1), 0);
        x.pass(1);
        due("the last LIFE, in YEAR 1", x.death(2), 31);
        due("its YEAR", person(x, 2, 1), 1);
        due("an ACT each", x.size(1), 4);
        x = crowd(24);
        due("the last PERSON, in the YEAR of its birth", x.death(23), 0);
        x.pass(1);
        due("a YEAR behind its birth", x.death(22), 1);
        x = at(399);
        due("of AGE 60, in 399", x.death(0), 459);
        says(10, "NONE: no FAMILY (STATUS 0), no such one (1), dead (3).");
        for (int person : new int[] {-1, 5, 23, 24, MIN, MAX}) {
            refused("death(" + person + ")", ChangeBoundsTests::lived, y -> y.death(person), NONE, 1);
            refused("death(" + person + "), no FAMILY", ChangeBoundsTests::fresh, y -> y.death(person), NONE, 0);
        }
        refused("death(24) of 24", () -> crowd(24), y -> y.death(24), NONE, 1);
        refused("death(4) of 4", () -> at(0), y -> y.death(4), NONE, 1);
        refused("dead in this YEAR", ChangeBoundsTests::lived, y -> y.death(0), NONE, 3);
        refused("dead in YEAR 0, in it", () -> {
            LaterLives y = at(0);
            y.death(3);
            return y;
        }, y -> y.death(3), NONE, 3);
        refused("dead in YEAR 0, later", () -> deadSince(30, 0, 9), y -> y.death(1), NONE, 3);
        refused("dead long ago", () -> deadSince(30, 4, 90), y -> y.death(1), NONE, 3);
        x = at(5);
        x.death(0);
        x.undo();
        due("a death UNDONE", x.death(0), 65);
    }

    // ---- 11, 12: PERIOD, LIMIT

    static void periodAndLimit() {
        says(11, "PERIOD becomes n: what it was. NONE: no FAMILY (STATUS 0), not 0 to 99 (2).");
        LaterLives x = at(0);
        int was = 21;
        for (int n : new int[] {0, 1, 98, 99, 21, 21}) {
            due("period(" + n + ")", x.period(n), was);
            due("PERIOD", x.rule(4), n);
            was = n;
        }
        due("ACTS", x.size(1), 6);
        for (int n : new int[] {-1, -21, 100, 101, MIN, MAX}) {
            refused("period(" + n + ")", ChangeBoundsTests::lived, y -> y.period(n), NONE, 2);
            refused("period(" + n + "), no FAMILY", ChangeBoundsTests::fresh, y -> y.period(n), NONE, 0);
        }
        says(12, "THE LIMIT becomes n: what it was. NONE: no FAMILY (STATUS 0), not 13 to 99 (2).");
        x = at(0);
        was = 99;
        for (int n : new int[] {13, 14, 98, 99, 50, 50}) {
            due("limit(" + n + ")", x.limit(n), was);
            due("LIMIT", x.rule(8), n);
            was = n;
        }
        due("ACTS", x.size(1), 6);
        for (int n : new int[] {12, 11, 0, -1, 100, 101, MIN, MAX}) {
            refused("limit(" + n + ")", ChangeBoundsTests::lived, y -> y.limit(n), NONE, 2);
            refused("limit(" + n + "), no FAMILY", ChangeBoundsTests::fresh, y -> y.limit(n), NONE, 0);
        }
        says(12, "(births in fact go on as told)");
        x = at(1);
        x.limit(13);
        due("of one above it", x.birth(0), 4);
    }

    // ---- 13, 14: what is

    static void rules() {
        says(13, "0 now, 1 PERSONS, 2 LIVES that live (bits), 3 the YEAR in which the last LIFE died (NONE)");
        LaterLives x = made("a1;b1;c1;d1;e1;f1;g1;h99");
        due("eight live", x.rule(2), 255);
        for (int i = 0; i < 7; i++) {
            x.death(i);
            due("LIVES that live", x.rule(2), 255 - (2 << i) + 1);
            due("one lives", x.rule(3), NONE);
            due("none, as long as one lives", x.rule(5), NONE);
        }
        x.death(7);
        due("none lives", x.rule(2), 0);
        due("YEAR 0", x.rule(3), 0);
        due("THE END", x.rule(5), 21);
        x.period(0);
        due("THE END by PERIOD 0", x.rule(5), 0);
        x.period(99);
        due("THE END by PERIOD 99", x.rule(5), 99);
        x = at(399);
        for (int i = 3; i >= 0; i--) {
            due("one lives", x.rule(3), NONE);
            x.death(i);
        }
        x.period(99);
        due("now", x.rule(0), 399);
        due("the last one died", x.rule(3), 399);
        due("THE END", x.rule(5), 498);
        x = made("a 60; b 60");
        x.death(1);
        x.pass(4);
        x.birth(0);
        x.death(0);
        x.pass(3);
        due("the later YEAR, of a lower LIFE", x.rule(3), 4);
        x.death(2);
        due("those born later aren't LIVES", x.rule(3), 4);
        due("the END of LIVES", x.rule(5), 25);
        due("GIFTS", full().rule(6), 8);
        due("PERSONS", crowd(24).rule(1), 24);
        due("LIVES", crowd(24).rule(7), 1);
        says(13, "THE END: the YEAR in which the last LIFE died, and PERIOD (21 at first; 0 to 99); none, as long as one lives.");
        due("PERIOD at first", made("a 60").rule(4), 21);
        due("LIMIT at first", made("a 60").rule(8), 99);
        says(13, "NONE: no FAMILY, no such what.");
        for (int what : new int[] {-1, 9, 10, MIN, MAX}) {
            asked("rule(" + what + ")", ChangeBoundsTests::lived, y -> y.rule(what), NONE);
        }
        for (int i = 0; i < 9; i++) {
            int what = i;
            asked("rule(" + what + "), no FAMILY", ChangeBoundsTests::fresh, y -> y.rule(what), NONE);
        }
    }

    static LaterLives full() {
        return TextBoundsTests.full();
    }

    static void persons() {
        says(14, "0 the YEAR of birth (below 0, too), 1 the YEAR of death (HIDDEN: it lives), 2 the PARENT (NONE), 3 the age (at death, now)");
        LaterLives x = made("a 99; b 0; c 86 of a");
        x.death(1);
        x.pass(1);
        x.birth(0);
        x.birth(3);
        x.pass(100);
        x.death(0);
        x.pass(1);
        int[][] due = {{-99, 101, NONE, 200, 2}, {0, 0, NONE, 0, 0}, {-86, HIDDEN, 0, 188, 0}, {1, HIDDEN, 0, 101, 0}};
        for (int p = 0; p < due.length; p++) {
            for (int what = 0; what < 5; what++) {
                due("person(" + p + ", " + what + ")", person(x, p, what), due[p][what]);
            }
        }
        says(14, "4 how many children it has had");
        due("most children", person(crowd(24), 0, 4), 23);
        due("the last one", person(crowd(24), 23, 2), 0);
        says(14, "NoSuchElementException: no such ones.");
        for (int none : new int[] {-1, 5, 6, 24, MIN, MAX}) {
            asked("person(0, " + none + ")", ChangeBoundsTests::lived, y -> person(y, 0, none), THROWN);
            asked("person(" + none + ", 0)", ChangeBoundsTests::lived, y -> person(y, none, 0), THROWN);
            asked("person(" + none + ", 9)", ChangeBoundsTests::lived, y -> person(y, none, 9), THROWN);
        }
        asked("person(24, 0) of 24", () -> crowd(24), y -> person(y, 24, 0), THROWN);
        asked("person(0, 0), no FAMILY", ChangeBoundsTests::fresh, y -> person(y, 0, 0), THROWN);
        asked("person(4, 4)", ChangeBoundsTests::lived, y -> person(y, 4, 4), 0);
        x = crowd(2);
        x.undo();
        due("one UNDONE", person(x, 1, 0), THROWN);
    }

    // ---- 38 to 40: ACTS, IMAGE

    static void acts() {
        says(38, "births, deaths, YEARS, PERIOD, LIMIT, GIFTS told, dropped: the latest 16 can be UNDONE");
        for (int many = 0; many <= 40; many++) {
            LaterLives x = made(FOUR);
            for (int i = 1; i <= many; i++) {
                x.pass(i % 3 + 1);
                due("ACTS that can be UNDONE", x.size(1), Math.min(i, 16));
            }
            int now = x.rule(0);
            for (int i = many; i > Math.max(0, many - 16); i--) {
                due("undo()", x.undo(), i - 1 - Math.max(0, many - 16));
                now -= i % 3 + 1;
                due("now", x.rule(0), now);
            }
            due("none", x.undo(), NONE);
            due("now", x.rule(0), now);
            due("ACTS", x.size(1), 0);
        }
        aroundTheRing();
        says(38, "The latest ACT is UNDONE: how many can be then. NONE: none.");
        asked("undo(), none", () -> made(FOUR), y -> y.undo(), NONE);
        asked("undo(), no FAMILY", ChangeBoundsTests::fresh, y -> y.undo(), NONE);
        LaterLives x = made(FOUR);
        x.image();
        story(x, "in 5");
        tell(x, "in 5");
        x.rule(0);
        due("IMAGES, STORIES, TEXTS are no ACTS", x.size(1), 0);
        for (int i = 0; i < 5; i++) {
            x.pass(0);
            x.birth(9);
            x.death(9);
            x.period(100);
            x.limit(100);
            x.drop(0);
            x.gift();
        }
        due("refused calls are none", x.size(1), 0);
        due("by STATUS", x.status(1) * 100 + x.status(2), 1520);
    }

    /** ACTS told and UNDONE in turn, so that the latest 16 begin at each place of any row they may be kept in. */
    static void aroundTheRing() {
        for (int told = 1; told <= 20; told++) {
            LaterLives x = made(FOUR);
            Deque<Integer> before = new ArrayDeque<>();
            for (int round = 0; round < 6; round++) {
                for (int i = 0; i < told; i++) {
                    before.push(x.rule(4));
                    x.period(told * round + i > 99 ? i : told * round + i);
                }
                for (int i = 0; i < told / 2; i++) {
                    while (before.size() > 16) {
                        before.removeLast();
                    }
                    due("undo()", x.undo(), before.size() - 1);
                    due("PERIOD", x.rule(4), before.pop());
                }
            }
            for (int left = before.size() - 1; left >= 0; left--) {
                due("undo(), to the first one", x.undo(), left);
                due("PERIOD", x.rule(4), before.pop());
            }
            due("none", x.undo(), NONE);
        }
    }

    static void eachAct() {
        says(38, "The latest ACT is UNDONE");
        LaterLives x = made("a 60; b 30 of a", "to b when years 3", "to a when years 4");
        int[] rules = {0, 2, 3, NONE, 21, NONE, 2, 2, 99};
        for (int act = 0; act < 7; act++) {
            x = made("a 60; b 30 of a", "to b when years 3", "to a when years 4");
            switch (act) {
                case 0: x.pass(7); break;
                case 1: x.death(0); break;
                case 2: x.period(0); break;
                case 3: x.limit(13); break;
                case 4: x.drop(0); break;
                case 5: gift(x, "to b when born"); break;
                default: x.pass(1); x.birth(0); x.undo(); break;
            }
            x.undo();
            for (int i = 0; i < 9; i++) {
                due("act " + act + ", rule " + i, x.rule(i), rules[i]);
            }
            due("act " + act + ", GIFT 0", x.told(0, 1), 1);
            due("act " + act + ", GIFT 1", x.written(1, 16), '4');
            due("act " + act + ", a lives", person(x, 0, 1), HIDDEN);
            due("act " + act + ", children", person(x, 0, 4), 1);
            due("act " + act + ", two told", x.size(1), 2);
            due("act " + act + ", GIFT 1 told", x.undo(), 1);
            due("act " + act + ", GIFT 1 told", x.rule(6), 1);
        }
        x = crowd(24);
        for (int left = 15; left >= 0; left--) {
            due("births UNDONE", x.undo(), left);
            due("PERSONS", x.rule(1), left + 8);
        }
        due("none", x.undo(), NONE);
    }

    static void images() {
        says(39, "An IMAGE (instead of the one ahead): now. NONE: no FAMILY.");
        asked("image(), no FAMILY", ChangeBoundsTests::fresh, y -> y.image(), NONE);
        due("in YEAR 0", at(0).image(), 0);
        due("in YEAR 399", at(399).image(), 399);
        LaterLives x = at(3);
        x.image();
        x.pass(4);
        due("a second", x.image(), 7);
        x.pass(4);
        due("instead of the first", x.back(), 7);
        says(39, "An IMAGE keeps PERSONS, now, PERIOD, LIMIT, GIFTS.");
        x = at(3);
        x.period(0);
        x.limit(13);
        gift(x, "to a when years 5");
        x.birth(0);
        x.death(1);
        x.image();
        x.undo();
        x.undo();
        x.undo();
        x.undo();
        x.undo();
        due("all UNDONE", x.rule(0) * 1000 + x.rule(1) * 100 + x.rule(4), 3421);
        due("back()", x.back(), 3);
        due("PERSONS", x.rule(1), 5);
        due("the dead", person(x, 1, 1), 3);
        due("PERIOD", x.rule(4), 0);
        due("LIMIT", x.rule(8), 13);
        due("GIFTS", x.written(0, 16), '5');
        says(40, "All it keeps is so again (no ACT can be UNDONE then): now. NONE: no IMAGE.");
        asked("back(), no FAMILY", ChangeBoundsTests::fresh, y -> y.back(), NONE);
        asked("back(), no IMAGE", () -> at(3), y -> y.back(), NONE);
        asked("back(), an IMAGE of the FAMILY ahead", () -> {
            LaterLives y = lived();
            tell(y, FOUR);
            y.family();
            return y;
        }, y -> y.back(), NONE);
        x = full();
        x.pass(12);
        for (int i = 4; i < 24; i++) {
            x.birth(0);
        }
        x.death(23);
        x.image();
        for (int i = 0; i < 8; i++) {
            x.drop(0);
        }
        x.undo();
        x.pass(100);
        x.death(2);
        x.period(0);
        x.limit(13);
        due("now", x.back(), 12);
        int[] rules = {12, 24, 15, NONE, 21, NONE, 8, 4, 99};
        for (int i = 0; i < 9; i++) {
            due("rule " + i, x.rule(i), rules[i]);
        }
        due("the last PERSON died", person(x, 23, 1), 12);
        due("c lives", person(x, 2, 1), HIDDEN);
        due("the last GIFT", x.written(7, 16), '7');
        due("ACTS", x.size(1), 0);
        due("no ACT", x.undo(), NONE);
        due("it can be brought again", x.pass(5) + x.back(), 29);
        due("ACTS begin anew", x.pass(5) + x.size(1), 18);
        x = at(0);
        x.image();
        x.pass(9);
        tell(x, "to b");
        due("YEAR 0", x.back(), 0);
        due("the TAPE stays", x.size(0), 4);
        due("STATUS stays", x.pass(0) + x.back() + x.status(2), 0);
    }

    // ---- 41 to 43

    static void status() {
        says(41, "STATUS. NONE: no such what.");
        for (int what : new int[] {-1, 5, 6, MIN, MAX}) {
            asked("status(" + what + ")", ChangeBoundsTests::lived, y -> y.status(what), NONE);
            asked("status(" + what + ")", ChangeBoundsTests::fresh, y -> y.status(what), NONE);
        }
        LaterLives x = fresh();
        for (int i = 1; i <= 300; i++) {
            x.pass(0);
        }
        due("many", x.status(0), 300);
        tell(x, "a 5");
        x.family();
        due("a FAMILY leaves it", x.status(0), 300);
        x.pass(0);
        x.image();
        x.back();
        x.undo();
        due("so do IMAGES, ACTS", x.status(2), 1);
        for (int i = 0; i < 5; i++) {
            due("none else " + i, x.status(i), i == 0 ? 300 : i == 2 ? 1 : 0);
        }
        says(41, "0 no FAMILY, 1 no such PERSON, GIFT, 2 out of bounds, a FAULT, 3 dead, 4 no room; of several the first");
        x = crowd(24);
        x.drop(0);
        x.birth(24);
        x.death(24);
        due("no such PERSON, GIFT", x.status(1), 3);
        x.pass(101);
        x.period(-1);
        x.limit(12);
        x.gift();
        x.birth(23);
        due("out of bounds, a FAULT", x.status(2), 5);
        x.death(23);
        x.death(23);
        due("dead", x.status(3), 1);
        x.birth(0);
        for (int i = 0; i < 8; i++) {
            gift(x, "to a when born");
        }
        gift(x, "to a when born");
        due("no room", x.status(4), 2);
        x.death(0);
        x.pass(1);
        x.birth(0);
        due("dead, no room", x.status(3), 2);
        due("no FAMILY", x.status(0), 0);
        says(41, "(those whose words tell STATUS)");
        asked("family(), a FAULT", ChangeBoundsTests::lived, y -> y.family(), NONE);
        asked("story(), a FAULT", ChangeBoundsTests::lived, y -> y.story(), NONE);
        asked("feed(), too many", () -> TextBoundsTests.livedWith(times(" ", 300)), y -> y.feed(1, 1, 1, 1, 1), NONE);
        asked("state(9)", ChangeBoundsTests::lived, y -> y.state(9), NONE);
        asked("share(0, 0, -1)", ChangeBoundsTests::lived, y -> y.share(0, 0, -1), NONE);
        asked("vests(0, 9)", ChangeBoundsTests::lived, y -> y.vests(0, 9), HIDDEN);
        asked("good(9)", ChangeBoundsTests::lived, y -> y.good(9), NONE);
        asked("behind(9, 0, 0, 0)", ChangeBoundsTests::lived, y -> y.behind(9, 0, 0, 0), HIDDEN);
        asked("course(0, 0, 9, 0)", ChangeBoundsTests::lived, y -> y.course(0, 0, 9, 0), HIDDEN);
        asked("most(9)", ChangeBoundsTests::lived, y -> y.most(9), NONE);
    }

    static void most() {
        says(42, "0 the PERSON with most children (of several the lowest; 0, where nobody has a child)");
        due("nobody has a child", made("a 60; b 30").most(0), 0);
        due("one has", made("a 60; b 30; c 9 of b").most(0), 1);
        due("two have one each", made("a 60; b 30 of a; c 9 of b").most(0), 0);
        due("two have one each", made("a 60; b 50; c 9 of b; d 60; e 9 of d").most(0), 1);
        due("the last LIFE that can", made("a1;b1;c1;d1;e1;f1;g 60;h1of g").most(0), 6);
        LaterLives x = crowd(2);
        x.pass(20);
        x.birth(1);
        due("one each, the lowest", x.most(0), 0);
        x.birth(1);
        due("two, one born later", x.most(0), 1);
        x.death(1);
        due("dead ones, too", x.most(0), 1);
        says(42, "1 the oldest that lives (of several the lowest; NONE)");
        x = made("a 20; b 60; c 60");
        due("the oldest, the lowest", x.most(1), 1);
        x.death(1);
        due("the other one", x.most(1), 2);
        x.death(2);
        due("the younger one", x.most(1), 0);
        x.death(0);
        due("nobody lives", x.most(1), NONE);
        due("how many live", x.most(2), 0);
        due("how many live", crowd(24).most(2), 24);
        x = crowd(24);
        x.death(0);
        due("those born later, the lowest", x.most(1), 1);
        due("how many live", x.most(2), 23);
        says(42, "5 the GIFT with most Fs (likewise)");
        x = made(FOUR, "to a when (born)", "to a when after 5 born", "to a when born and born");
        due("two of two Fs, the lowest", x.most(5), 1);
        x.drop(1);
        due("the other one", x.most(5), 1);
        x.drop(1);
        due("the only one", x.most(5), 0);
        x.drop(0);
        due("no GIFTS", x.most(5), NONE);
        due("the first of eight", full().most(5), 0);
        says(42, "6 the greatest age at which one died (NONE: nobody did)");
        x = made("a 60; b 0; c 99");
        due("nobody did", x.most(6), NONE);
        x.death(1);
        due("at 0", x.most(6), 0);
        x.death(0);
        due("at 60", x.most(6), 60);
        x.pass(30);
        due("YEARS behind it don't count", x.most(6), 60);
        x.death(2);
        due("at 129", x.most(6), 129);
    }

    static void mostOfGifts() {
        says(42, "3 how many GIFTS are GOOD, 4 how many of STATE 2");
        due("eight are GOOD", full().most(3), 8);
        LaterLives x = full();
        x.period(4);
        due("five are GOOD", x.most(3), 5);
        x.period(0);
        due("one is GOOD", x.most(3), 1);
        due("none of STATE 2", x.most(4), 0);
        for (int i = 0; i < 4; i++) {
            x.death(i);
        }
        due("now is THE END", x.most(4), 0);
        x.pass(1);
        due("seven of STATE 2: one NOT above THE END", x.most(4), 7);
        x.pass(9);
        due("seven of STATE 2", x.most(4), 7);
        x.drop(0);
        due("all seven", x.most(4), 7);
        x.drop(0);
        due("all six", x.most(4), 6);
        due("no GIFTS", made(FOUR).most(3), 0);
        due("no GIFTS", made(FOUR).most(4), 0);
        says(42, "NONE: no FAMILY, no such what.");
        for (int what : new int[] {-1, 7, 8, MIN, MAX}) {
            asked("most(" + what + ")", ChangeBoundsTests::lived, y -> y.most(what), NONE);
        }
        for (int i = 0; i < 7; i++) {
            int what = i;
            asked("most(" + what + "), no FAMILY", ChangeBoundsTests::fresh, y -> y.most(what), NONE);
        }
    }

    static void sizes() {
        says(43, "0 bytes of the TAPE, 1 ACTS that can be UNDONE. NONE for others.");
        due("no bytes", fresh().size(0), 0);
        due("no ACTS", fresh().size(1), 0);
        due("300 bytes", TextBoundsTests.blanks(300).size(0), 300);
        due("16 ACTS", crowd(24).size(1), 16);
        due("bytes", lived().size(0), 17);
        due("ACTS", lived().size(1), 8);
        for (int what : new int[] {-1, 2, 3, MIN, MAX}) {
            asked("size(" + what + ")", ChangeBoundsTests::fresh, y -> y.size(what), NONE);
            asked("size(" + what + ")", ChangeBoundsTests::lived, y -> y.size(what), NONE);
        }
    }

    public static void main(String[] arguments) {
        years();
        births();
        young();
        noRoom();
        deaths();
        periodAndLimit();
        rules();
        persons();
        acts();
        eachAct();
        images();
        status();
        most();
        mostOfGifts();
        sizes();
        covered(8, 14);
        covered(38, 43);
        tellHowItWent("bounds of changes: all answers are as due");
    }
}
