/** Promises 1 to 43, one by one; the answers due are the document's, reckoned by hand. */
public final class PromiseTests extends Checks {
    static void p1() {
        LaterLives x = new LaterLives();
        due("NONE", LaterLives.NONE, -1);
        due("HIDDEN", LaterLives.HIDDEN, -1000000);
        for (int i = 0; i < 9; i++) {
            due("1 rule", x.rule(i), NONE);
            due("1 status", x.status(i), i < 5 ? 0 : NONE);
            due("1 most", x.most(i), NONE);
        }
        due("1 size 0", x.size(0), 0);
        due("1 size 1", x.size(1), 0);
        due("1 person", person(x, 0, 0), THROWN);
        due("1 told", x.told(0, 0), NONE);
        due("1 written", x.written(0, NONE), NONE);
        due("1 member", x.member(0, NONE), NONE);
        due("1 vests", x.vests(0, 0), HIDDEN);
        due("1 closes", x.closes(0, 0), NONE);
        due("1 state", x.state(0), NONE);
        due("1 count", x.count(0, 0), NONE);
        due("1 share", x.share(0, 0, 1), NONE);
        due("1 story", x.story(), NONE);
        due("1 storied", x.storied(0), NONE);
        due("1 storyState", x.storyState(0), NONE);
        due("1 storyVests", x.storyVests(0, 0), HIDDEN);
        due("1 good", x.good(0), NONE);
        due("1 behind", x.behind(0, 0, 0, 0), HIDDEN);
        due("1 soonest", x.soonest(0, 0, 0), HIDDEN);
        due("1 carriers", x.carriers(0), NONE);
        due("1 ways", x.ways(0), NONE);
        due("1 lowered", x.lowered(0), NONE);
        due("1 witness", x.witness(0), NONE);
        due("1 course", x.course(0, 0, 0, 0), HIDDEN);
        due("1 lates", x.lates(0), NONE);
        due("1 worst", x.worst(0, 0), HIDDEN);
        due("1 firstBad", x.firstBad(), NONE);
        due("1 undo", x.undo(), NONE);
        due("1 image", x.image(), NONE);
        due("1 back", x.back(), NONE);
        for (int i = 0; i < 5; i++) {
            due("1 status after asking", x.status(i), 0);
        }
        due("1 drop", x.drop(0), NONE);
        due("1 birth", x.birth(0), NONE);
        due("1 death", x.death(0), NONE);
        due("1 period", x.period(1), NONE);
        due("1 limit", x.limit(20), NONE);
        due("1 pass", x.pass(1), NONE);
        due("1 gift", x.gift(), NONE);
        due("1 status of calls refused", x.status(0), 7);
        due("1 fault", x.fault(0), 0);
    }

    static void p2() {
        LaterLives x = new LaterLives();
        due("2 four bytes", x.feed(0x61203630, 0, 0, 0, 0), 4);
        due("2 zeros inside are left out", x.feed(0, 0x3b000062, 0x20003330, 0, 0x00000001), 10);
        due("2 read", x.fault(0), 9);
        due("2 end", x.end(9), true);
        due("2 the bytes in their order", x.family(), 2);
        due("2 birth of b", person(x, 1, 0), -30);
        due("2 none", x.feed(0, 0, 0, 0, 0), 0);
        due("2 a high byte", x.feed(0x80000000, 0, 0, 0, 0), 1);
        due("2 all high bytes", x.feed(-1, -1, -1, -1, -1), 21);
        x.end(0);
        for (int i = 1; i <= 15; i++) {
            due("2 twenty more", x.feed(0x20202020, 0x20202020, 0x20202020, 0x20202020, 0x20202020), 20 * i);
        }
        due("2 the 301st", x.feed(0, 0, 0x2000, 0, 0), NONE);
        due("2 it stays", x.size(0), 300);
        due("2 zeros always fit", x.feed(0, 0, 0, 0, 0), 300);
        x.end(285);
        due("2 five over", x.feed(-1, -1, -1, -1, -1), NONE);
        due("2 all or none", x.size(0), 285);
        due("2 up to 300", x.feed(-1, -1, -1, 0x00010101, 0), 300);
    }

    static void p3() {
        LaterLives x = new LaterLives();
        due("3 none of none", x.end(0), true);
        due("3 more than there are", x.end(1), false);
        add(x, "a 60 of");
        due("3 one more than there are", x.end(8), false);
        due("3 below 0", x.end(-1), false);
        due("3 least", x.end(Integer.MIN_VALUE), false);
        due("3 it stays", x.size(0), 7);
        due("3 all", x.end(7), true);
        due("3 the first 4", x.end(4), true);
        due("3 so many", x.size(0), 4);
        due("3 these", x.family(), 1);
        due("3 of age 60", person(x, 0, 0), -60);
    }

    static void p4family() {
        LaterLives x = new LaterLives();
        faults(x, 0, "a 60", NONE);
        faults(x, 0, "  a60of;", 7);
        faults(x, 0, " a  60  ;b 47of a ", NONE);
        faults(x, 0, "a60;b48of a", 10);
        faults(x, 0, "a60;b47of a", NONE);
        faults(x, 0, "a 60; b 47 ofa", 11);
        faults(x, 0, "a 60; b 5 of b", 13);
        faults(x, 0, "b 5 of a; a 60", 7);
        faults(x, 0, "", 0);
        faults(x, 0, "   ", 3);
        faults(x, 0, "a 6 ;  ", 7);
        faults(x, 0, "a", 1);
        faults(x, 0, "a 60 of", 7);
        faults(x, 0, "a 60 of  ", 9);
        faults(x, 0, "ab 60", 0);
        faults(x, 0, "i 60", 0);
        faults(x, 0, "h 60", NONE);
        faults(x, 0, "A 60", 0);
        faults(x, 0, "a 99", NONE);
        faults(x, 0, "a 100", 2);
        faults(x, 0, "a 060", NONE);
        faults(x, 0, "a 0060", 2);
        faults(x, 0, "a 0", NONE);
        faults(x, 0, "a b", 2);
        faults(x, 0, "a 6 0", 4);
        faults(x, 0, "a 6 b", 4);
        faults(x, 0, "a 6,b 5", 3);
        faults(x, 0, "a 6;;b 5", 4);
        faults(x, 0, "a 6; a 5", 5);
        faults(x, 0, "a 6; 5", 5);
        faults(x, 0, "a 60 of 5", 8);
        faults(x, 0, "a 60; b 5 of aa", 13);
        faults(x, 0, "a 60; b 5 of a of a", 15);
        faults(x, 0, "a 6" + (char) 233, 3);
        faults(x, 0, "a1;b1;c1;d1;e1;f1;g1;h1", NONE);
        faults(x, 0, "a1;b1;c1;d1;e1;f1;g1;h1;i1", 24);
        faults(x, 0, "a1;b1;c1;d1;e1;f1;g1;h1; a1", 25);
        faults(x, 0, "a1;b1;c1;d1;e1;f1;g1;h1;", 24);
        faults(x, 0, "a1;b1;c1;d1;e1;f1;g1;h1; 1", 25);
        due("4 another what", x.fault(-1), -2);
        due("4 another what", x.fault(3), -2);
        due("4 no FAMILY 1", x.fault(1), -2);
        due("4 no FAMILY 2", x.fault(2), -2);
    }

    static void p4gift() {
        LaterLives x = made("a 60; c 30 of a");
        faults(x, 1, "to a when born", NONE);
        faults(x, 1, " to  children  c  when  born  ", NONE);
        faults(x, 1, "to grandchildren a when born", NONE);
        faults(x, 1, "", 0);
        faults(x, 1, "in a", 0);
        faults(x, 1, "to", 2);
        faults(x, 1, "to b when born", 3);
        faults(x, 1, "to children b when born", 12);
        faults(x, 1, "to childrena when born", 3);
        faults(x, 1, "to children children", 12);
        faults(x, 1, "to a whenborn", 5);
        faults(x, 1, "to a when", 9);
        faults(x, 1, "to a when or", 10);
        faults(x, 1, "to a when years", 15);
        faults(x, 1, "to a when years 99", NONE);
        faults(x, 1, "to a when years 100", 16);
        faults(x, 1, "to a when years 0099", 16);
        faults(x, 1, "to a when years 099", NONE);
        faults(x, 1, "to a when dies c", NONE);
        faults(x, 1, "to a when dies b", 15);
        faults(x, 1, "to a when dies 5", 15);
        faults(x, 1, "to a when c dies", 12);
        faults(x, 1, "to a when c reaches 5", NONE);
        faults(x, 1, "to a when c reaches", 19);
        faults(x, 1, "to a when b reaches 5", 10);
        faults(x, 1, "to a when reaches c", 18);
        faults(x, 1, "to a when reaches 25 years 1", 21);
        faults(x, 1, "to a when born or", 17);
        faults(x, 1, "to a when born and  ", 20);
        faults(x, 1, "to a when born or or", 18);
        faults(x, 1, "to a when born ; ", 15);
        faults(x, 1, "to a when born)", 14);
        faults(x, 1, "to a when (born", 15);
        faults(x, 1, "to a when (born;", 15);
        faults(x, 1, "to a when ()", 11);
        faults(x, 1, "to a when (born or born)and(born)", NONE);
        faults(x, 1, "to a when after 5", 17);
        faults(x, 1, "to a when after born", 16);
        faults(x, 1, "to a when after 100 born", 16);
        faults(x, 1, "to a when after 5born", NONE);
        faults(x, 1, "to a when after 5 (born)", NONE);
        p4bounds(x);
    }

    static void p4bounds(LaterLives x) {
        faults(x, 1, "to a when (((((born)))))", NONE);
        faults(x, 1, "to a when ((((((born))))))", 15);
        faults(x, 1, "to a when (((((born))))) and (((((born)))))", NONE);
        faults(x, 1, "to a when " + times("after 1 ", 5) + "born", NONE);
        faults(x, 1, "to a when " + times("after 1 ", 6) + "born", 50);
        faults(x, 1, "to a when " + times("(after 1 ", 2) + "(born)))", NONE);
        faults(x, 1, "to a when " + times("(after 1 ", 2) + "((born))))", 29);
        faults(x, 1, "to a when " + times("(after 1 ", 2) + "(after 1 born)))", 29);
        faults(x, 1, "to a when born" + times(" or born", 15), NONE);
        faults(x, 1, "to a when born" + times(" or born", 16), 138);
        faults(x, 1, "to a when born" + times(" and born", 14) + " or a reaches 5", NONE);
        faults(x, 1, "to a when born" + times(" and born", 15) + " or a reaches 5", 153);
        faults(x, 1, "to a when born" + times(" and born", 15) + " or ((x", 155);
        faults(x, 1, "to a when born" + times(" and born", 15) + " or years 100", 153);
        faults(x, 1, "to a when born" + times(" or born", 14) + " or after 1 born", 138);
        faults(x, 1, "to a when born" + times(" or born", 13) + " or after 1 born", NONE);
        faults(x, 1, "to a when born" + times(" or born", 14) + " or (((born)))", NONE);
        faults(x, 1, "to a when born" + times(" or born", 15) + " or or born", 138);
        faults(x, 1, "to a when (born" + times(" or born", 15) + " or )", 139);
        faults(x, 1, "to childrenz a when born", 3);
        faults(x, 1, "xo a when born", 0);
        faults(x, 1, "to a when after or born", 16);
        faults(x, 1, "to a when after 5 or born", 18);
        faults(x, 1, "to a when years or born", 16);
        faults(x, 1, "to a when reaches and born", 18);
        faults(x, 1, "to a when dies or born", 15);
        faults(x, 1, "to a when c reaches or born", 20);
        faults(x, 1, "to a when (after 5) born", 18);
        faults(x, 1, "to a when after 0 born", NONE);
        due("4 another what, with a FAMILY", x.fault(3), -2);
        due("4 another what, with a FAMILY", x.fault(-1), -2);
        due("4 the TAPE stays", x.size(0), 22);
        due("4 nothing is refused", x.status(2), 0);
    }

    static void p4story() {
        LaterLives x = made("a 60; c 30 of a");
        faults(x, 2, "in 5", NONE);
        faults(x, 2, "", 0);
        faults(x, 2, " in 0 ; a dies;c bears ; person 23 dies", NONE);
        faults(x, 2, "person 24 dies", 7);
        faults(x, 2, "person c dies", 7);
        faults(x, 2, "person0bears", NONE);
        faults(x, 2, "b dies", 0);
        faults(x, 2, "dies a", 0);
        faults(x, 2, "a", 1);
        faults(x, 2, "a dies c", 7);
        faults(x, 2, "a die", 2);
        faults(x, 2, "in a", 3);
        faults(x, 2, "in ; a dies", 3);
        faults(x, 2, "in 399", NONE);
        faults(x, 2, "in 400", 3);
        faults(x, 2, "in 0399", 3);
        faults(x, 2, "in 5;a dies;in 5", NONE);
        faults(x, 2, "in 5;a dies;in 4", 15);
        faults(x, 2, "in 5;", 5);
        faults(x, 2, "in 5;;", 5);
        faults(x, 2, "in 5" + times(";a dies", 29), NONE);
        faults(x, 2, "in 5" + times(";a dies", 29) + "; a dies", 209);
        faults(x, 2, "in 5" + times(";a dies", 29) + "; in 4", 209);
        faults(x, 2, "in 5" + times(";a dies", 29) + "; ", 209);
    }

    static void p5() {
        LaterLives x = made(FOUR, "to a when born");
        x.period(30);
        x.limit(50);
        x.pass(10);
        x.birth(0);
        x.image();
        story(x, "in 3");
        x.pass(0);
        tell(x, "a 5;");
        due("5 a FAULT", x.family(), NONE);
        due("5 the TAPE stays", x.size(0), 4);
        due("5 all stays", x.rule(1), 5);
        due("5 all stays", x.rule(6), 1);
        due("5 all stays", x.size(1), 5);
        due("5 not counted", x.status(2), 1);
        add(x, "c 40; b 20 of c");
        due("5 the TAPE goes on", x.family(), 3);
        due("5 empty then", x.size(0), 0);
        int[] rules = {0, 3, 7, NONE, 21, NONE, 0, 3, 99};
        for (int i = 0; i < rules.length; i++) {
            due("5 rule " + i, x.rule(i), rules[i]);
        }
        due("5 LIFE 0", person(x, 0, 0), -5);
        due("5 PARENT by the order told", person(x, 2, 2), 1);
        due("5 no ACTS", x.undo(), NONE);
        due("5 no IMAGE", x.back(), NONE);
        due("5 no STORY", x.storied(0), NONE);
        due("5 STATUS stays", x.status(2), 1);
    }

    static void p5more() {
        LaterLives x = new LaterLives();
        tell(x, "h 99; b 50 of h; a 37 of b; c 0 of h");
        due("5 four", x.family(), 4);
        due("5 of h", person(x, 1, 2), 0);
        due("5 of b", person(x, 2, 2), 1);
        due("5 of h too", person(x, 3, 2), 0);
        due("5 the oldest", person(x, 0, 0), -99);
        due("5 the youngest", person(x, 3, 0), 0);
        tell(x, "a1;b1;c1;d1;e1;f1;g1;h1");
        due("5 eight", x.family(), 8);
        tell(x, "b 60");
        due("5 one", x.family(), 1);
        due("5 old NAMES are gone", gift(x, "to a when born"), NONE);
        due("5 the new one", gift(x, "to b when born"), 0);
        due("5 it is LIFE 0", x.told(0, 1), 0);
    }

    static void p6() {
        LaterLives x = new LaterLives();
        add(x, "to a when born");
        due("6 no FAMILY", x.gift(), NONE);
        due("6 STATUS 0", x.status(0), 1);
        due("6 the TAPE stays", x.size(0), 14);
        x = made(FOUR);
        tell(x, "to a when");
        due("6 a FAULT", x.gift(), NONE);
        due("6 STATUS 2", x.status(2), 1);
        due("6 the TAPE stays", x.size(0), 9);
        add(x, " born");
        for (int i = 0; i < 8; i++) {
            due("6 its number", x.gift(), i);
            due("6 empty then", x.size(0), 0);
            add(x, "to a when born");
        }
        due("6 a ninth", x.gift(), NONE);
        due("6 STATUS 4", x.status(4), 1);
        due("6 the TAPE stays", x.size(0), 14);
        due("6 eight ACTS", x.size(1), 8);
        add(x, ")");
        due("6 a FAULT and no room", x.gift(), NONE);
        due("6 the first: a FAULT", x.status(2), 2);
        due("6 not no room", x.status(4), 1);
        x.drop(3);
        x.end(14);
        due("6 there is room", x.gift(), 7);
    }

    static void p7() {
        LaterLives x = new LaterLives();
        due("7 no FAMILY", x.drop(0), NONE);
        due("7 STATUS 0", x.status(0), 1);
        x = made(FOUR, "to a when born", "to b when born", "to c when born", "to d when born");
        due("7 below", x.drop(-1), NONE);
        due("7 above", x.drop(4), NONE);
        due("7 far", x.drop(Integer.MAX_VALUE), NONE);
        due("7 STATUS 1", x.status(1), 3);
        due("7 one goes", x.drop(1), 3);
        due("7 0 stays", x.told(0, 1), 0);
        due("7 2 is 1", x.told(1, 1), 2);
        due("7 3 is 2", x.told(2, 1), 3);
        due("7 no 3", x.told(3, 1), NONE);
        due("7 the last", x.drop(2), 2);
        due("7 the first", x.drop(0), 1);
        due("7 2 is 0", x.told(0, 1), 2);
        due("7 all", x.drop(0), 0);
        due("7 none", x.drop(0), NONE);
        due("7 ACTS", x.size(1), 8);
        x = made(FOUR, "to a when born", "to b when born", "to c when born", "to d when born", "to a when born",
            "to b when born", "to c when born", "to d when born");
        due("7 the first of eight", x.drop(0), 7);
        due("7 the last of eight", x.told(6, 1), 3);
        due("7 the one ahead", x.told(5, 1), 2);
    }

    static void p8() {
        LaterLives x = new LaterLives();
        due("8 no FAMILY, also out of bounds", x.pass(0), NONE);
        due("8 STATUS 0", x.status(0), 1);
        x = made(FOUR);
        due("8 0", x.pass(0), NONE);
        due("8 below", x.pass(-1), NONE);
        due("8 101", x.pass(101), NONE);
        due("8 much", x.pass(Integer.MAX_VALUE), NONE);
        due("8 STATUS 2", x.status(2), 4);
        due("8 1", x.pass(1), 1);
        due("8 100", x.pass(100), 101);
        x.pass(100);
        x.pass(100);
        due("8 above 399", x.pass(99), NONE);
        due("8 up to 399", x.pass(98), 399);
        due("8 no more", x.pass(1), NONE);
        due("8 STATUS 2", x.status(2), 6);
        due("8 ACTS", x.size(1), 5);
        due("8 now", x.rule(0), 399);
    }

    static void p9() {
        LaterLives x = new LaterLives();
        due("9 no FAMILY", x.birth(0), NONE);
        due("9 STATUS 0", x.status(0), 1);
        x = made("a 60; b 12");
        due("9 no such in YEAR 0", x.birth(2), NONE);
        due("9 STATUS 1", x.status(1), 1);
        due("9 YEAR 0", x.birth(0), NONE);
        due("9 STATUS 2", x.status(2), 1);
        x.death(0);
        due("9 dead in YEAR 0: the first", x.birth(0), NONE);
        due("9 STATUS 2", x.status(2), 2);
        x.pass(1);
        due("9 13", x.birth(1), 2);
        due("9 born now", person(x, 2, 0), 1);
        due("9 its PARENT", person(x, 2, 2), 1);
        due("9 it lives", person(x, 2, 1), HIDDEN);
        due("9 dead", x.birth(0), NONE);
        due("9 STATUS 3", x.status(3), 1);
        due("9 too young", x.birth(2), NONE);
        x.pass(11);
        x.death(2);
        due("9 too young, also if dead", x.birth(2), NONE);
        due("9 STATUS 2", x.status(2), 4);
        x.pass(2);
        due("9 13 by the YEARS, dead", x.birth(2), NONE);
        due("9 STATUS 3", x.status(3), 2);
        x.death(1);
        due("9 died in this YEAR", x.birth(1), 3);
        due("9 no such", x.birth(-1), NONE);
        due("9 no such", x.birth(4), NONE);
        due("9 STATUS 1", x.status(1), 3);
        p9full();
    }

    static void p9full() {
        LaterLives x = made("a 60");
        x.pass(12);
        for (int i = 1; i < 24; i++) {
            due("9 its number", x.birth(0), i);
        }
        due("9 there are 24", x.birth(0), NONE);
        due("9 STATUS 4", x.status(4), 1);
        due("9 too young, and no room", x.birth(5), NONE);
        due("9 STATUS 2", x.status(2), 1);
        x.death(0);
        x.pass(1);
        due("9 dead, and no room", x.birth(0), NONE);
        due("9 STATUS 3", x.status(3), 1);
        due("9 13 since birth, no room", x.birth(23), NONE);
        due("9 STATUS 2", x.status(2), 2);
        due("9 24 PERSONS", x.rule(1), 24);
        due("9 none more", person(x, 24, 0), THROWN);
    }

    static void p10() {
        LaterLives x = new LaterLives();
        due("10 no FAMILY", x.death(0), NONE);
        due("10 STATUS 0", x.status(0), 1);
        x = made("a 60; b 0");
        due("10 no such", x.death(2), NONE);
        due("10 no such", x.death(-1), NONE);
        due("10 STATUS 1", x.status(1), 2);
        due("10 in YEAR 0", x.death(0), 60);
        due("10 dead", x.death(0), NONE);
        due("10 STATUS 3", x.status(3), 1);
        due("10 the YEAR", person(x, 0, 1), 0);
        x.pass(14);
        x.birth(1);
        x.pass(7);
        due("10 born at 0", x.death(1), 21);
        due("10 born later", x.death(2), 7);
        due("10 the YEAR", person(x, 2, 1), 21);
        due("10 ACTS", x.size(1), 6);
        x.pass(5);
        due("10 once", x.death(2), NONE);
        due("10 the YEAR stays", person(x, 2, 1), 21);
    }

    static void p11() {
        LaterLives x = new LaterLives();
        due("11 no FAMILY", x.period(100), NONE);
        due("11 STATUS 0", x.status(0), 1);
        x = made("a 60", "to a when years 30");
        due("11 bad by 21", x.good(0), 0);
        due("11 what it was", x.period(30), 21);
        due("11 good by 30", x.good(0), 1);
        due("11 what it was", x.period(0), 30);
        due("11 99", x.period(99), 0);
        due("11 100", x.period(100), NONE);
        due("11 below", x.period(-1), NONE);
        due("11 STATUS 2", x.status(2), 2);
        due("11 it stays", x.rule(4), 99);
        due("11 the same is an ACT too", x.period(99), 99);
        due("11 ACTS", x.size(1), 5);
    }

    static void p12() {
        LaterLives x = new LaterLives();
        due("12 no FAMILY", x.limit(100), NONE);
        due("12 STATUS 0", x.status(0), 1);
        x = made("a 60", "to children a when born");
        due("12 what it was", x.limit(60), 99);
        due("12 not above it", x.behind(0, 1, 0, 1), 0);
        due("12 what it was", x.limit(59), 60);
        due("12 above it", x.behind(0, 1, 0, 1), -2);
        due("12 13", x.limit(13), 59);
        due("12 99", x.limit(99), 13);
        due("12 12", x.limit(12), NONE);
        due("12 100", x.limit(100), NONE);
        due("12 STATUS 2", x.status(2), 2);
        due("12 it stays", x.rule(8), 99);
        due("12 ACTS", x.size(1), 5);
        x.limit(13);
        x.pass(1);
        due("12 births go on as told", x.birth(0), 1);
    }

    static void p13() {
        LaterLives x = made(FOUR, "to a when born");
        x.period(7);
        x.limit(40);
        x.pass(9);
        x.birth(1);
        x.death(0);
        int[] first = {9, 5, 14, NONE, 7, NONE, 1, 4, 40};
        for (int i = 0; i < first.length; i++) {
            due("13 rule " + i, x.rule(i), first[i]);
        }
        x.death(1);
        x.death(3);
        x.pass(2);
        due("13 c alone", x.rule(2), 4);
        due("13 c lives", x.rule(3), NONE);
        x.death(2);
        x.pass(3);
        x.death(4);
        int[] then = {14, 5, 0, 11, 7, 18, 1, 4, 40};
        for (int i = 0; i < then.length; i++) {
            due("13 rule " + i, x.rule(i), then[i]);
        }
        due("13 no such", x.rule(9), NONE);
        due("13 no such", x.rule(-1), NONE);
        x = made("a 60");
        x.death(0);
        due("13 the YEAR 0", x.rule(3), 0);
        due("13 THE END", x.rule(5), 21);
    }

    static void p14() {
        LaterLives x = made(FOUR);
        x.pass(9);
        x.birth(1);
        x.death(1);
        x.pass(4);
        int[][] due = {{-60, HIDDEN, NONE, 73, 1}, {-30, 9, 0, 39, 2}, {-5, HIDDEN, 1, 18, 0},
            {-20, HIDDEN, NONE, 33, 0}, {9, HIDDEN, 1, 4, 0}};
        for (int p = 0; p < due.length; p++) {
            for (int what = 0; what < 5; what++) {
                due("14 person " + p + ", " + what, person(x, p, what), due[p][what]);
            }
        }
        due("14 no such what", person(x, 0, 5), THROWN);
        due("14 no such what", person(x, 0, -1), THROWN);
        due("14 no such PERSON", person(x, 5, 0), THROWN);
        due("14 no such PERSON", person(x, -1, 0), THROWN);
        x.undo();
        x.undo();
        x.undo();
        due("14 none any more", person(x, 4, 0), THROWN);
    }

    static void p15() {
        LaterLives x = made(FOUR, "to d when born", "to children b when (years 1 or dies a) and reaches 5 or born",
            "to grandchildren a when after 3 after 4 (a reaches 5)");
        int[][] due = {{0, 3, 1, 1}, {1, 1, 4, 2}, {2, 0, 3, 1}};
        for (int g = 0; g < 3; g++) {
            for (int what = 0; what < 4; what++) {
                due("15 told " + g + ", " + what, x.told(g, what), due[g][what]);
            }
        }
        due("15 no such what", x.told(0, 4), NONE);
        due("15 no such what", x.told(0, -1), NONE);
        due("15 no such GIFT", x.told(3, 0), NONE);
        due("15 no such GIFT", x.told(-1, 0), NONE);
        gift(x, "to a when born" + times(" or born", 15));
        due("15 16 Fs", x.told(3, 2), 16);
        due("15 16 Ts", x.told(3, 3), 16);
    }

    static void p16() {
        writes("  to  a  when  born  ", "to a when born");
        writes("to children b when reaches 025", "to children b when reaches 25");
        writes("to grandchildren a when(years 0or dies d)and c reaches 9",
            "to grandchildren a when ( years 0 or dies d ) and c reaches 9");
        writes("to a when after 10(((born)))or after 009after 99 born and born",
            "to a when after 10 ( ( ( born ) ) ) or after 9 after 99 born and born");
        LaterLives x = made(FOUR, "to a when born", "to b when born");
        due("16 the second", x.written(1, 3), 'b');
        due("16 the first", x.written(0, 3), 'a');
        due("16 k", x.written(0, -2), NONE);
        writes("to a when after 0 years 00", "to a when after 0 years 0");
        due("16 k", x.written(0, Integer.MAX_VALUE), NONE);
        due("16 no such GIFT", x.written(2, 0), NONE);
        due("16 no such GIFT", x.written(-1, NONE), NONE);
        tell(x, "to b when reaches 44");
        due("16 by the TAPE as it was", x.written(0, 10), 'b');
        due("16 fault is no gift", x.fault(1), NONE);
        due("16 by the TAPE as it was", x.written(0, NONE), 14);
    }

    static void p17() {
        LaterLives x = made("a 60; b 30 of a; c 33 of a; d 5 of b; e 4 of c", "to b when born",
            "to children a when years 20", "to grandchildren a when years 20", "to children d when born");
        due("17 to one", x.member(0, NONE), 1);
        due("17 to one", x.member(0, 0), 1);
        due("17 none behind", x.member(0, 1), NONE);
        due("17 children", x.member(1, NONE), 2);
        due("17 by numbers", x.member(1, 1), 2);
        due("17 grandchildren", x.member(2, NONE), 2);
        due("17 by numbers", x.member(2, 0), 3);
        due("17 none yet", x.member(3, NONE), 0);
        due("17 none yet", x.member(3, 0), NONE);
        x.pass(20);
        due("17 closed in this YEAR, born in it", x.birth(0), 5);
        due("17 it is in", x.member(1, NONE), 3);
        due("17 it is the last", x.member(1, 2), 5);
        x.pass(1);
        due("17 born later", x.birth(0), 6);
        due("17 it is out", x.member(1, NONE), 3);
        x.death(2);
        due("17 dead ones stay", x.member(1, 1), 2);
        due("17 i", x.member(1, -2), NONE);
        due("17 PERSON 0", gift(x, "to a when born"), 4);
        due("17 PERSON 0", x.member(4, NONE), 1);
        due("17 PERSON 0", x.member(4, 0), 0);
        due("17 no such GIFT", x.member(5, NONE), NONE);
        due("17 no such GIFT", x.member(-1, NONE), NONE);
    }

    static void p18facts() {
        LaterLives x = made("a 60; b 30 of a; c 5 of b", "to a when years 10", "to a when dies b", "to c when born",
            "to c when reaches 20", "to c when b reaches 50", "to c when b reaches 20", "to c when after 5 dies b",
            "to c when after 5 b reaches 50");
        int[] at0 = {NONE, NONE, 0, NONE, NONE, 0, NONE, NONE};
        for (int g = 0; g < 8; g++) {
            due("18 YEAR 0, " + g, x.vests(g, x.told(g, 1)), at0[g]);
        }
        x.pass(9);
        due("18 years 10 in 9", x.vests(0, 0), NONE);
        x.pass(1);
        due("18 years 10 in 10", x.vests(0, 0), 10);
        x.death(1);
        due("18 dies b in 10", x.vests(1, 0), 10);
        due("18 b reaches 50 never", x.vests(4, 2), -2);
        due("18 b has reached 20", x.vests(5, 2), 0);
        due("18 after 5 in 10", x.vests(6, 2), NONE);
        due("18 after NEVER", x.vests(7, 2), -2);
        x.pass(4);
        due("18 reaches 20 in 14", x.vests(3, 2), NONE);
        due("18 after 5 in 14", x.vests(6, 2), NONE);
        x.pass(1);
        due("18 reaches 20 in 15", x.vests(3, 2), 15);
        due("18 after 5 in 15", x.vests(6, 2), 15);
        x.death(2);
        due("18 dead in the very YEAR", x.vests(3, 2), 15);
        x.undo();
        x.undo();
        x.death(2);
        due("18 dead a YEAR ahead", x.vests(3, 2), -2);
        due("18 no condition of life", x.vests(2, 2), 0);
        due("18 none", x.vests(0, 1), -3);
        due("18 no such GIFT", x.vests(8, 1), HIDDEN);
        due("18 no such GIFT", x.vests(-1, 1), HIDDEN);
        due("18 no such PERSON", x.vests(0, 3), HIDDEN);
        due("18 no such PERSON", x.vests(0, -1), HIDDEN);
    }

    static void p18joints() {
        LaterLives x = made("a 60; b 30 of a; c 5 of b", "to c when years 5 and years 9",
            "to c when years 9 or years 5", "to c when reaches 90 and years 5", "to c when reaches 90 or dies a",
            "to c when b reaches 90 or reaches 90", "to c when years 9 and (years 1 or years 50) or years 99",
            "to c when b reaches 90 and dies a", "to c when after 2 (years 5 or years 3 or years 4)");
        x.pass(7);
        x.death(1);
        int[] at7 = {NONE, 5, NONE, NONE, NONE, NONE, -2, 5};
        for (int g = 0; g < 8; g++) {
            due("18 joints in 7, " + g, x.vests(g, 2), at7[g]);
        }
        x.pass(3);
        x.death(2);
        int[] at10 = {9, 5, -2, NONE, -2, 9, -2, 5};
        for (int g = 0; g < 8; g++) {
            due("18 joints in 10, " + g, x.vests(g, 2), at10[g]);
        }
        x.death(0);
        due("18 or: a YEAR goes ahead of NEVER", x.vests(3, 2), 10);
        x = made("a 60", "to children a when years 5", "to children a when reaches 5", "to children a when born and years 3");
        x.pass(8);
        x.birth(0);
        due("18 in the YEAR of birth, if later", x.vests(0, 1), 8);
        due("18 not yet 5", x.vests(1, 1), NONE);
        due("18 born", x.vests(2, 1), 8);
        x.pass(1);
        x.birth(0);
        p18zero();
        due("18 behind the closing: none", x.vests(0, 2), -3);
        due("18 not closed", x.vests(1, 2), NONE);
        due("18 the LIFE told is none", x.vests(1, 0), -3);
    }

    static void p18zero() {
        LaterLives x = made("a 60; b 30 of a", "to b when after 5 reaches 20", "to b when born and years 5",
            "to b when years 5 and born", "to b when born or years 5", "to b when years 5 or born",
            "to children b when years 0", "to b when years 6 and dies a", "to b when after 0 years 5");
        due("18 dies in YEAR 0", x.death(0), 60);
        x.pass(7);
        x.birth(1);
        int[] at7 = {5, 5, 5, 0, 0, 7, 6, 5};
        for (int g = 0; g < 8; g++) {
            due("18 zeros in 7, " + g, x.vests(g, g == 5 ? 2 : 1), at7[g]);
        }
    }

    static void p19() {
        LaterLives x = made("a 60; b 30 of a; c 33 of a; d 5 of b", "to a when born", "to children a when reaches 50",
            "to grandchildren a when reaches 50", "to children d when born");
        for (int g = 0; g < 4; g++) {
            due("19 none at first, " + g, x.closes(g, 0), NONE);
            due("19 none at first, " + g, x.closes(g, 1), NONE);
        }
        x.pass(16);
        due("19 not yet", x.closes(1, 0), NONE);
        x.pass(1);
        due("19 c is 50", x.closes(1, 0), 17);
        x.pass(3);
        due("19 the first stays", x.closes(1, 0), 17);
        x.death(0);
        due("19 by NATURE", x.closes(1, 1), 20);
        due("19 also by CONVENIENCE", x.closes(1, 0), 17);
        due("19 grandchildren still come", x.closes(2, 1), NONE);
        x.death(1);
        x.pass(4);
        x.death(2);
        due("19 the last such YEAR", x.closes(2, 1), 24);
        due("19 not by CONVENIENCE", x.closes(2, 0), NONE);
        x.death(3);
        due("19 without children", x.closes(3, 1), 24);
        due("19 of one", x.closes(0, 0), NONE);
        due("19 of one", x.closes(0, 1), NONE);
        due("19 what", x.closes(1, 2), NONE);
        due("19 what", x.closes(1, -1), NONE);
        due("19 no such GIFT", x.closes(4, 0), NONE);
        due("19 no such GIFT", x.closes(-1, 1), NONE);
        x = made("a 60; b 30 of a", "to grandchildren a when born", "to children a when born");
        due("19 in YEAR 0", x.closes(1, 0), 0);
        x.pass(5);
        x.birth(0);
        x.death(1);
        x.pass(2);
        x.death(0);
        due("19 a child born later counts", x.closes(0, 1), NONE);
        x.pass(2);
        x.death(2);
        due("19 the child's YEAR", x.closes(0, 1), 9);
    }

    static void p20() {
        LaterLives x = made("a 60; b 30 of a", "to children a when reaches 40", "to b when reaches 40",
            "to children b when years 50", "to b when a reaches 90");
        x.period(5);
        int[] first = {0, 0, 0, 0};
        for (int g = 0; g < 4; g++) {
            due("20 at first, " + g, x.state(g), first[g]);
        }
        x.pass(10);
        due("20 has VESTED, closed", x.state(0), 1);
        due("20 to one", x.state(1), 1);
        x.pass(1);
        x.birth(1);
        x.death(0);
        due("20 NEVER", x.state(3), 3);
        x.death(1);
        x.pass(5);
        due("20 now is THE END", x.state(2), 0);
        x.pass(1);
        due("20 above THE END, NOT YET", x.state(2), 2);
        due("20 in time", x.state(1), 1);
        x.period(39);
        due("20 THE END is 50", x.state(2), 0);
        x.pass(33);
        due("20 in YEAR 50", x.state(2), 1);
        x.period(38);
        due("20 LATE by one", x.state(2), 2);
        due("20 no such GIFT", x.state(4), NONE);
        due("20 no such GIFT", x.state(-1), NONE);
        p20more();
    }

    static void p20more() {
        LaterLives x = made("a 60; b 30 of a", "to children b when born", "to children a when reaches 50");
        due("20 somebody can come", x.state(0), 0);
        x.pass(3);
        x.death(1);
        due("20 without any, nobody comes", x.state(0), 3);
        due("20 all NEVER, somebody can come", x.state(1), 0);
        x.death(0);
        due("20 all NEVER, nobody comes", x.state(1), 3);
        x = made("a 60; b 30 of a; c 20 of a", "to children a when reaches 40");
        x.pass(5);
        x.death(2);
        due("20 one NEVER, one NOT YET", x.state(0), 0);
        x.pass(5);
        due("20 one NEVER, one VESTED, closed", x.state(0), 1);
        x = made("a 60; b 30 of a; c 20 of a", "to children a when reaches 40");
        x.pass(10);
        due("20 closed, one NOT YET", x.state(0), 0);
        x.death(0);
        x.death(1);
        x.death(2);
        due("20 one NEVER, one VESTED", x.state(0), 1);
    }

    static void p21() {
        LaterLives x = made("a 60; b 30 of a; c 20 of a; d 10 of a", "to children a when reaches 40");
        x.period(5);
        x.pass(1);
        x.birth(0);
        due("21 NOT YET", x.count(0, 3), 4);
        due("21 in time", x.count(0, 0), 0);
        x.pass(9);
        due("21 in time", x.count(0, 0), 1);
        due("21 NOT YET", x.count(0, 3), 3);
        x.death(3);
        due("21 NEVER", x.count(0, 2), 1);
        x.pass(10);
        for (int p = 0; p < 3; p++) {
            x.death(p);
        }
        due("21 in time", x.count(0, 0), 2);
        x.pass(21);
        due("21 LATE", x.count(0, 1), 1);
        due("21 in time", x.count(0, 0), 2);
        due("21 NEVER", x.count(0, 2), 1);
        due("21 NOT YET", x.count(0, 3), 0);
        x.period(21);
        due("21 in time at THE END", x.count(0, 0), 3);
        due("21 LATE", x.count(0, 1), 0);
        due("21 PERSON 0", gift(x, "to a when born"), 1);
        due("21 PERSON 0", x.count(1, 0), 1);
        x.drop(1);
        due("21 what", x.count(0, 4), NONE);
        due("21 what", x.count(0, -1), NONE);
        due("21 no such GIFT", x.count(1, 0), NONE);
        due("21 no such GIFT", x.count(-1, 0), NONE);
    }

    static void p22() {
        LaterLives x = made("a 60; b 30 of a; c 20 of a; d 10 of a", "to children a when reaches 40", "to b when born",
            "to b when years 9", "to children d when born");
        due("22 somebody can come", x.share(0, 1, 100), NONE);
        due("22 to one", x.share(1, 1, 100), 100);
        due("22 to one: another", x.share(1, 2, 100), 0);
        due("22 nobody has VESTED", x.share(2, 1, 100), NONE);
        x.pass(10);
        due("22 one", x.share(0, 1, 100), 100);
        due("22 not VESTED", x.share(0, 2, 100), 0);
        x.pass(20);
        due("22 lower number", x.share(0, 1, 101), 34);
        due("22 lower number", x.share(0, 2, 101), 34);
        due("22 cut down", x.share(0, 3, 101), 33);
        due("22 one left", x.share(0, 1, 100), 34);
        due("22 one left", x.share(0, 2, 100), 33);
        due("22 none left", x.share(0, 3, 99), 33);
        due("22 less than parts", x.share(0, 3, 2), 0);
        due("22 no member", x.share(0, 0, 100), 0);
        due("22 nothing", x.share(0, 1, 0), 0);
        due("22 most", x.share(0, 1, 1000000), 333334);
        due("22 amount", x.share(0, 1, 1000001), NONE);
        due("22 amount", x.share(0, 1, -1), NONE);
        due("22 no such PERSON", x.share(0, 4, 5), NONE);
        due("22 no such PERSON", x.share(0, -1, 5), NONE);
        due("22 no such GIFT", x.share(4, 1, 5), NONE);
        due("22 no such GIFT", x.share(-1, 1, 5), NONE);
        x.death(3);
        due("22 nobody VESTED, nobody comes", x.share(3, 3, 5), NONE);
        x = made("a 60; b 30 of a", "to children a when reaches 40");
        x.period(1);
        x.death(0);
        x.death(1);
        x.undo();
        x.pass(1);
        x.birth(0);
        x.pass(9);
        due("22 closed by NATURE too", x.share(0, 1, 7), 7);
        x.undo();
        due("22 nobody has VESTED", x.share(0, 1, 7), NONE);
    }

    static void p22late() {
        LaterLives y = made("a 60; b 30 of a; c 31 of a", "to children a when born", "to a when born");
        due("22 VESTED in YEAR 0", y.share(0, 1, 3), 2);
        due("22 VESTED in YEAR 0", y.share(0, 2, 3), 1);
        due("22 PERSON 0", y.share(1, 0, 3), 3);
        LaterLives x = made("a 60; b 30 of a", "to children a when reaches 20");
        x.undo();
        gift(x, "to children b when reaches 20");
        x.pass(1);
        x.birth(1);
        x.birth(1);
        x.death(0);
        x.death(1);
        x.period(5);
        x.pass(20);
        due("22 LATE ones", x.count(0, 1), 2);
        due("22 share too", x.share(0, 2, 5), 3);
        due("22 share too", x.share(0, 3, 5), 2);
    }

    static void p23() {
        LaterLives x = new LaterLives();
        tell(x, "in 5");
        due("23 no FAMILY", x.story(), NONE);
        due("23 the TAPE stays", x.size(0), 4);
        due("23 not counted", x.status(0), 0);
        x = made(FOUR);
        x.pass(50);
        x.death(0);
        due("23 three EVENTS", story(x, "in 5; b bears; person 4 dies"), 3);
        due("23 empty then", x.size(0), 0);
        due("23 things stay", x.rule(0), 50);
        due("23 things stay", x.rule(1), 4);
        tell(x, "in 5; in 4");
        due("23 a FAULT", x.story(), NONE);
        due("23 the TAPE stays", x.size(0), 10);
        due("23 the STORY ahead stays", x.storied(1), 5);
        due("23 not counted", x.status(2), 0);
        due("23 no ACT", x.size(1), 2);
        due("23 all LIVES live there", story(x, "a dies"), 1);
        due("23 births in YEAR 0", story(x, "a dies; a bears; b dies"), 1);
        due("23 too young", story(x, "in 1; b bears; c bears"), 2);
        due("23 13", story(x, "in 8; c bears"), 2);
        due("23 dead", story(x, "in 1; a dies; in 2; a bears"), 3);
        due("23 dead in this YEAR", story(x, "in 1; a dies; a bears; in 2"), 4);
        due("23 dead twice", story(x, "a dies; a dies"), 1);
        due("23 no such PERSON", story(x, "in 1; person 4 dies"), 1);
        due("23 no room", story(x, "in 1" + times(";a bears", 21) + ";a dies"), 21);
        due("23 by more than 100 YEARS", story(x, "in 399"), 1);
        due("23 refused ones are not counted", x.status(1) + x.status(2) + x.status(3) + x.status(4), 0);
    }

    static void p24() {
        LaterLives x = made(FOUR);
        due("24 none", x.storied(0), NONE);
        story(x, "in 5; b bears; a dies; d dies; in 7; b dies");
        int[] first = {7, 5, NONE, NONE, 4};
        for (int i = 0; i < 5; i++) {
            due("24 storied " + i, x.storied(i), first[i]);
        }
        story(x, "in 5; b dies; a dies; d dies; in 9; c dies; c dies; in 12");
        int[] then = {9, 4, 6, 30, 0};
        for (int i = 0; i < 5; i++) {
            due("24 storied " + i, x.storied(i), then[i]);
        }
        x.period(40);
        due("24 THE END by PERIOD as it is", x.storied(3), 49);
        due("24 what", x.storied(5), NONE);
        due("24 what", x.storied(-1), NONE);
        story(x, "person 9 dies");
        due("24 the EVENT that ended it", x.storied(2), 0);
        due("24 the YEAR", x.storied(0), 0);
        x.image();
        x.back();
        due("24 it outlasts back()", x.storied(1), 4);
        tell(x, FOUR);
        x.family();
        due("24 but no new FAMILY", x.storied(1), NONE);
    }

    static void p25() {
        LaterLives x = made(FOUR, "to grandchildren a when reaches 25");
        due("25 none", x.storyState(0), NONE);
        story(x, "in 5; b bears; a dies; b dies; c dies; d dies; in 30");
        due("25 LATE", x.storyState(0), 2);
        due("25 things are otherwise", x.state(0), 0);
        x.period(25);
        due("25 in time", x.storyState(0), 1);
        gift(x, "to c when reaches 10");
        due("25 a GIFT told later", x.storyState(1), 1);
        gift(x, "to c when reaches 11");
        due("25 NEVER", x.storyState(2), 3);
        due("25 no such GIFT", x.storyState(3), NONE);
        due("25 no such GIFT", x.storyState(-1), NONE);
        story(x, "in 5");
        due("25 another STORY", x.storyState(0), 0);
    }

    static void p26() {
        LaterLives x = made(FOUR, "to grandchildren a when reaches 25");
        due("26 none", x.storyVests(0, 2), HIDDEN);
        story(x, "in 5; b bears; a bears; in 29");
        due("26 c", x.storyVests(0, 2), 20);
        due("26 the one born in it", x.storyVests(0, 4), NONE);
        due("26 none of the CLASS", x.storyVests(0, 5), -3);
        due("26 not there", x.storyVests(0, 6), HIDDEN);
        due("26 not there", x.storyVests(0, -1), HIDDEN);
        due("26 no such GIFT", x.storyVests(1, 2), HIDDEN);
        due("26 no such GIFT", x.storyVests(-1, 2), HIDDEN);
        due("26 not in fact", x.vests(0, 4), HIDDEN);
        story(x, "in 5; c dies");
        due("26 NEVER", x.storyVests(0, 2), -2);
        gift(x, "to c when years 5");
        x.drop(0);
        due("26 by GIFTS as they are", x.storyVests(0, 2), 5);
    }

    static void p27() {
        LaterLives x = made(FOUR, "to children a when reaches 25", "to children d when reaches 21",
            "to children d when reaches 22", "to grandchildren a when born", "to grandchildren d when born",
            "to d when after 21 dies b and reaches 40", "to d when years 22 or dies c", "to d when years 22");
        int[] due = {1, 1, 0, 1, 0, 1, 1, 0};
        for (int g = 0; g < 8; g++) {
            due("27 good " + g, x.good(g), due[g]);
        }
        due("27 no such GIFT", x.good(8), NONE);
        due("27 no such GIFT", x.good(-1), NONE);
        x.pass(50);
        x.death(3);
        due("27 by YEAR 0 alone", x.good(1), 1);
        due("27 by YEAR 0 alone", x.good(2), 0);
        x.limit(19);
        due("27 no child in THE TEST", x.good(2), 1);
        due("27 no grandchild either", x.good(4), 1);
        x = made("a 60; b 30 of a; c 5 of b", "to grandchildren a when reaches 6", "to grandchildren a when reaches 5",
            "to grandchildren a when years 0 and reaches 90", "to grandchildren a when years 0");
        int[] then = {0, 1, 0, 1};
        for (int g = 0; g < 4; g++) {
            due("27 SORT 0 alone? " + g, x.good(g), then[g]);
        }
    }

    static void p28() {
        LaterLives x = made("a 60; b 30 of a; c 5 of b", "to c when reaches 25", "to c when b reaches 40",
            "to children b when reaches 10", "to grandchildren a when reaches 0 or years 7",
            "to c when after 3 dies b", "to c when (years 30 or reaches 9) and (dies a or years 2)",
            "to c when after 4 (after 5 reaches 5 or years 40)", "to children b when born and years 9");
        due("28 c alone", x.behind(0, 0, 2, 0), 20);
        due("28 c counts", x.behind(0, 0, 2, 4), 0);
        due("28 others don't help", x.behind(0, 0, 2, 3), 20);
        due("28 b not counting", x.behind(1, 0, 2, 5), 10);
        due("28 b counting", x.behind(1, 0, 2, 2), 0);
        due("28 SORT 0 of children", x.behind(2, 0, 2, 0), 5);
        due("28 SORT 1 of children", x.behind(2, 1, 1, 2), 10);
        due("28 SORT 1, parent not counting", x.behind(2, 1, 1, 5), NONE);
        due("28 reaches 0 is as born", x.behind(3, 1, 1, 2), 0);
        due("28 SORT 2 is born ever", x.behind(3, 2, 0, 7), NONE);
        due("28 after dies", x.behind(4, 0, 2, 2), 3);
        due("28 after ever", x.behind(4, 0, 2, 5), NONE);
        due("28 or, and", x.behind(5, 0, 2, 0), 30);
        due("28 or, and", x.behind(5, 0, 2, 1), 30);
        due("28 after or", x.behind(6, 0, 2, 0), 9);
        due("28 and of SORT 1", x.behind(7, 1, 1, 2), 9);
        due("28 no member", x.behind(0, 0, 1, 0), -2);
        due("28 no SORT 1 of one", x.behind(0, 1, 2, 0), -2);
        due("28 SORT 1 of children by another", x.behind(2, 1, 0, 0), -2);
        due("28 no SORT 2 of children", x.behind(2, 2, 1, 0), -2);
        due("28 SORT 2 by another", x.behind(3, 2, 1, 0), -2);
        due("28 SORT 1 of grandchildren by the LIFE told", x.behind(3, 1, 0, 0), -2);
        due("28 the children are none", x.behind(3, 0, 1, 0), -2);
        due("28 SORT", x.behind(0, 3, 2, 0), HIDDEN);
        due("28 SORT", x.behind(0, -1, 2, 0), HIDDEN);
        due("28 LIFE", x.behind(0, 0, 3, 0), HIDDEN);
        due("28 LIFE", x.behind(0, 0, -1, 0), HIDDEN);
        due("28 LIVES", x.behind(0, 0, 2, 8), HIDDEN);
        due("28 LIVES", x.behind(0, 0, 2, -1), HIDDEN);
        due("28 GIFT", x.behind(8, 0, 2, 0), HIDDEN);
        due("28 GIFT", x.behind(-1, 0, 2, 0), HIDDEN);
        p28more();
    }

    static void p28more() {
        LaterLives y = made("a 60", "to children a when reaches 30 or born", "to children a when reaches 30 or born and dies a",
            "to children a when reaches 30 or after 4 dies a");
        due("28 born is sure", y.behind(0, 1, 0, 1), 0);
        due("28 born and dead is sure", y.behind(1, 1, 0, 1), 0);
        due("28 4 behind is sure", y.behind(2, 1, 0, 1), 4);
        LaterLives x = made("a 60; b 30 of a; c 5 of b", "to c when years 5 or reaches 30",
            "to children b when reaches 30 or years 5", "to c when reaches 30 or years 50", "to c when reaches 6",
            "to grandchildren a when reaches 5", "to children b when after 9 born");
        due("28 H no more than S", x.behind(0, 0, 2, 0), 5);
        due("28 H no more than S, SORT 1", x.behind(1, 1, 1, 7), 5);
        due("28 the greater H", x.behind(2, 0, 2, 0), 50);
        due("28 the greater H, counting", x.behind(2, 0, 2, 4), 50);
        due("28 a YEAR short", x.behind(3, 0, 2, 0), 1);
        due("28 all SORTS told, though one has VESTED", x.behind(4, 2, 0, 7), NONE);
        due("28 all SORTS told, though one has VESTED", x.behind(4, 1, 1, 7), 5);
        due("28 born of SORT 0", x.behind(4, 0, 2, 0), 0);
        due("28 after born", x.behind(5, 1, 1, 2), 9);
        x.limit(30);
        due("28 30 is not above 30", x.behind(4, 1, 1, 7), 5);
        due("28 60 is", x.behind(4, 2, 0, 7), -2);
        x.limit(29);
        due("28 30 is above 29", x.behind(4, 1, 1, 7), -2);
        x.pass(30);
        x.birth(1);
        x.death(2);
        due("28 one born since is no LIFE", x.behind(4, 0, 3, 0), HIDDEN);
        due("28 one dead since is one", x.behind(4, 0, 2, 0), 0);
    }

    static void p29() {
        LaterLives x = made("a 60; b 30 of a; c 5 of b", "to grandchildren a when years 9",
            "to grandchildren a when dies b", "to grandchildren a when born", "to grandchildren a when reaches 8",
            "to grandchildren a when b reaches 40", "to grandchildren a when after 20 (years 3 or reaches 1)",
            "to grandchildren a when years 3 and years 20 or years 50", "to children b when a reaches 10");
        int[][] due = {{9, 9, 14}, {0, 1, 14}, {0, 1, 14}, {3, 9, 22}, {10, 10, 14}, {20, 22, 23}, {20, 20, 20}};
        for (int g = 0; g < 7; g++) {
            due("29 SORT 0 of " + g, x.soonest(g, 0, 2), due[g][0]);
            due("29 SORT 1 of " + g, x.soonest(g, 1, 1), due[g][1]);
            due("29 SORT 2 of " + g, x.soonest(g, 2, 0), due[g][2]);
        }
        due("29 0 at least", x.soonest(7, 0, 2), 0);
        due("29 the birth's", x.soonest(7, 1, 1), 1);
        due("29 no member", x.soonest(7, 2, 1), NONE);
        due("29 no member", x.soonest(7, 0, 1), NONE);
        x.limit(20);
        due("29 no member by THE LIMIT", x.soonest(7, 1, 1), NONE);
        due("29 SORT", x.soonest(7, 3, 1), HIDDEN);
        due("29 SORT", x.soonest(7, -1, 1), HIDDEN);
        due("29 LIFE", x.soonest(7, 0, 3), HIDDEN);
        due("29 LIFE", x.soonest(7, 0, -1), HIDDEN);
        due("29 GIFT", x.soonest(8, 0, 2), HIDDEN);
        due("29 GIFT", x.soonest(-1, 0, 2), HIDDEN);
    }

    static void p29more() {
        LaterLives x = made("a 60; b 30 of a", "to children a when years 9 or dies b", "to children a when years 9 or born",
            "to children a when years 20 and years 3", "to children a when years 3 or years 20",
            "to children a when after 5 (dies a and born)");
        int[][] due = {{0, 1}, {0, 1}, {20, 20}, {3, 3}, {5, 6}};
        for (int g = 0; g < 5; g++) {
            due("29 joints, SORT 0 of " + g, x.soonest(g, 0, 1), due[g][0]);
            due("29 joints, SORT 1 of " + g, x.soonest(g, 1, 0), due[g][1]);
        }
    }

    static void p30() {
        LaterLives x = made("a 60; b 30 of a; c 5 of b; d 20", "to c when dies b and dies d", "to c when reaches 90",
            "to c when dies d or dies b", "to c when reaches 26", "to children b when reaches 5",
            "to children b when reaches 6", "to c when years 22", "to c when dies d or after 5 dies b");
        int[] due = {10, 4, 2, 0, 0, 2, NONE, 2};
        for (int g = 0; g < 8; g++) {
            due("30 carriers " + g, x.carriers(g), due[g]);
        }
        x.period(4);
        due("30 by PERIOD", x.carriers(7), 8);
        due("30 no such GIFT", x.carriers(8), NONE);
        due("30 no such GIFT", x.carriers(-1), NONE);
        x = made("a1;b1;c1;d1;e1;f1;g1;h1",
            "to a when dies a and dies b and dies c and dies d and dies e and dies f and dies g and dies h",
            "to a when dies h and dies g or dies a and dies b and dies c");
        due("30 all eight", x.carriers(0), 255);
        due("30 the fewest", x.carriers(1), 192);
        x = made("a 60", "to children a when born");
        x.limit(20);
        due("30 without members", x.carriers(0), 0);
    }

    static void p31() {
        LaterLives x = made("a 60; b 30 of a; c 5 of b; d 20", "to c when years 30 or years 3 or reaches 40 and years 22 or dies d",
            "to children b when reaches 6 or reaches 22 or reaches 5", "to grandchildren a when reaches 5 or reaches 6",
            "to grandchildren a when (years 1 or years 2) and born", "to c when (years 99 or years 1)",
            "to c when after 1 (years 30 or years 3) or after 2 years 2");
        int[] due = {2 + 8, 1 + 4, 1, 0, 1, 3};
        for (int g = 0; g < 6; g++) {
            due("31 ways " + g, x.ways(g), due[g]);
        }
        due("31 SORT 0 alone by the E itself", x.good(2), 1);
        gift(x, "to c when born" + times(" or born", 15));
        due("31 sixteen", x.ways(6), 65535);
        due("31 no such GIFT", x.ways(7), NONE);
        due("31 no such GIFT", x.ways(-1), NONE);
    }

    static void p32() {
        LaterLives x = made("a 60; b 30 of a; c 5 of b; d 20", "to children d when reaches 25",
            "to children d when reaches 25 or reaches 30", "to children d when after 9 reaches 40",
            "to d when years 22 and reaches 5", "to grandchildren a when reaches 25",
            "to children d when born and after 20 d reaches 60", "to children d when years 3 and reaches 21",
            "to children d when after 21 reaches 1");
        int[] due = {21, 21, 12, NONE, 5, 99, 99, 0};
        for (int g = 0; g < 8; g++) {
            due("32 lowered " + g, x.lowered(g), due[g]);
        }
        due("32 no such GIFT", x.lowered(8), NONE);
        due("32 no such GIFT", x.lowered(-1), NONE);
        x = made("a 60; b 10 of a", "to children a when after 20 reaches 80 and reaches 99",
            "to b when years 30 or a reaches 80", "to b when years 30 or reaches 80");
        due("32 a reaches 60 for sure", x.lowered(1), 60);
        due("32 b reaches 10 for sure", x.lowered(2), 10);
        x.period(60);
        due("32 each of them", x.lowered(0), 40);
    }

    static void p33() {
        LaterLives x = made("a 60; b 30 of a; c 5 of b; d 20", "to children d when reaches 25",
            "to d when years 23", "to d when dies a and years 60", "to children d when years 25",
            "to grandchildren d when born", "to d when after 25 dies a", "to grandchildren a when reaches 6",
            "to d when reaches 85");
        due("33 born in the YEAR of the parent's death", x.witness(0), 0);
        due("33 all in YEAR 1", x.witness(1), 15);
        due("33 above 22 by all in YEAR 1", x.witness(2), 15);
        due("33 SORT 1", x.witness(3), 15);
        due("33 SORT 2: 90 and 81", x.witness(4), 0);
        due("33 after the death", x.witness(5), 0);
        due("33 SORT 2: 96", x.witness(6), 0);
        due("33 dead ahead of it: none", x.witness(7), NONE);
        x.period(50);
        due("33 85 is not above 110", x.witness(0), NONE);
        due("33 by PERIOD", x.witness(4), NONE);
        x.limit(19);
        x.period(21);
        due("33 no SORT by THE LIMIT", x.witness(0), NONE);
        due("33 no SORT by THE LIMIT", x.witness(4), NONE);
        due("33 no such GIFT", x.witness(8), NONE);
        due("33 no such GIFT", x.witness(-1), NONE);
        x = made("a 60; b 30 of a", "to grandchildren a when reaches 55");
        x.period(26);
        due("33 SORT 1 60 and 55, SORT 2 90 and 55", x.witness(0), 0);
        x.period(85);
        due("33 EARLY: SORT 2 is born in 31: 86, in 1: 56", x.witness(0), NONE);
        x.period(84);
        due("33 145 and 144", x.witness(0), 0);
    }

    static void p33early() {
        LaterLives x = made("a 60; b 30 of a", "to children a when after 2 born and dies a",
            "to children a when b reaches 31 and after 2 dies a");
        x.period(1);
        due("33 2 behind the last death", x.witness(0), 0);
        due("33 b reaches 31 in 1 at the latest", x.witness(1), 0);
        x.period(2);
        due("33 2 behind is in time", x.witness(1), NONE);
        x = made("a 60", "to children a when after 99 after 99 after 99 after 48 born and a reaches 80");
        due("33 born in 60: 405; dead in 1: NEVER; EARLY: 346", x.witness(0), 256);
        due("33 by this alone", x.lates(0), 1);
        x = made("a 60", "to children a when born and years 60 or reaches 70");
        x.period(10);
        due("33 a set ahead of EARLY", x.witness(0), 1);
        x = made("a 60; b 20 of a", "to children a when years 1 and b reaches 50 and after 31 born");
        x.period(21);
        due("33 b lives till 60, child born in 60", x.witness(0), 0);
        x = made("a 60; b 40", "to grandchildren a when years 61 or dies b");
        x.limit(60);
        x.period(0);
        due("33 31 behind 1, 1: all but 1", x.witness(0), 0);
    }

    static void p34() {
        LaterLives x = made(FOUR, "to grandchildren a when reaches 25", "to c when b reaches 50 or dies d",
            "to c when after 99 after 99 after 99 after 99 dies a", "to children d when born",
            "to c when b reaches 50 and dies d");
        due("34 SORT 0", x.course(0, 0, 2, 0), 20);
        due("34 SORT 0, dead in 1", x.course(0, 0, 2, 4), -2);
        due("34 SORT 1 in 60", x.course(0, 1, 1, 0), 85);
        due("34 SORT 1, parent dead in 1", x.course(0, 1, 1, 2), 26);
        due("34 SORT 1, EARLY", x.course(0, 1, 1, 256), 26);
        due("34 SORT 2", x.course(0, 2, 0, 0), 115);
        due("34 SORT 2, the LIFE dead in 1", x.course(0, 2, 0, 1), 56);
        due("34 SORT 2, EARLY", x.course(0, 2, 0, 256), 56);
        due("34 b reaches 50", x.course(1, 0, 2, 0), 20);
        due("34 b dead in 1", x.course(1, 0, 2, 2), 60);
        due("34 d dead in 1", x.course(1, 0, 2, 8), 1);
        due("34 d dead in 1, all bits", x.course(1, 0, 2, 271), 1);
        due("34 396 and 1", x.course(2, 0, 2, 1), 397);
        due("34 NOT YET by 400", x.course(2, 0, 2, 0), NONE);
        gift(x, "to c when after 99 after 99 after 99 after 43 dies a");
        gift(x, "to c when after 99 after 99 after 99 after 44 dies a");
        due("34 400", x.course(5, 0, 2, 0), 400);
        due("34 401", x.course(6, 0, 2, 0), NONE);
        x.drop(5);
        x.drop(5);
        due("34 NEVER", x.course(4, 0, 2, 2), -2);
        due("34 both", x.course(4, 0, 2, 8), 20);
        due("34 born", x.course(3, 1, 3, 8), 1);
        due("34 born", x.course(3, 1, 3, 7), 60);
        due("34 no member", x.course(3, 0, 3, 0), -3);
        due("34 no member", x.course(3, 2, 3, 0), -3);
        x.limit(19);
        due("34 no member by THE LIMIT", x.course(3, 1, 3, 7), -3);
        due("34 LIVES that aren't there", x.course(0, 0, 2, 16), HIDDEN);
        due("34 LIVES that aren't there", x.course(0, 0, 2, 272), HIDDEN);
        due("34 512", x.course(0, 0, 2, 512), HIDDEN);
        due("34 below", x.course(0, 0, 2, -1), HIDDEN);
        due("34 SORT", x.course(0, 3, 2, 0), HIDDEN);
        due("34 LIFE", x.course(0, 0, 4, 0), HIDDEN);
        due("34 LIFE", x.course(0, 0, -1, 0), HIDDEN);
        due("34 GIFT", x.course(5, 0, 2, 0), HIDDEN);
        due("34 GIFT", x.course(-1, 0, 2, 0), HIDDEN);
    }

    static void p35() {
        LaterLives x = made("a 60; b 30 of a", "to b when years 23", "to children b when reaches 25", "to b when years 3",
            "to children b when years 60", "to b when after 22 dies a", "to children a when born");
        due("35 all dead in 1, EARLY or not", x.lates(0), 2);
        due("35 b late, not EARLY; and all in 1", x.lates(1), 1 + 1 + 1 + 1);
        due("35 never", x.lates(2), 0);
        due("35 60 above 22", x.lates(3), 2);
        due("35 60 above 22, and 82 above 81", x.lates(4), 2 * 3);
        due("35 VESTED at the start", x.lates(5), 0);
        due("35 no such GIFT", x.lates(6), NONE);
        due("35 no such GIFT", x.lates(-1), NONE);
        x.limit(29);
        due("35 no SORT 1", x.lates(1), 0);
        x = made("a1;b1;c1;d1;e1;f1;g1;h1", "to a when after 99 dies a", "to a when after 22 (dies a and dies b and "
            + "dies c and dies d and dies e and dies f and dies g and dies h)");
        due("35 all 512, where a dies in 60 or last", x.lates(0), 512);
        due("35 all 512", x.lates(1), 512);
    }

    static void p36() {
        LaterLives x = made("a 60; b 30 of a; c 35 of a; d 5 of b", "to children a when years 30",
            "to children a when reaches 40", "to grandchildren a when reaches 7", "to grandchildren a when reaches 5",
            "to a when dies a", "to children d when reaches 3", "to children a when reaches 40 and years 2");
        int[][] due = {{0, 1, 30}, {1, 0, 40}, {2, 0, NONE}, {0, 3, 0}, {0, 0, 0}, {1, 3, 3}, {1, 0, 40}};
        for (int g = 0; g < 7; g++) {
            for (int what = 0; what < 3; what++) {
                due("36 worst " + g + ", " + what, x.worst(g, what), due[g][what]);
            }
        }
        x.limit(35);
        due("36 of several by SORTS, then lives", x.worst(2, 0), 1);
        due("36 the lower of b, c", x.worst(2, 1), 1);
        due("36 7 years", x.worst(2, 2), 7);
        x.limit(30);
        due("36 c is above it", x.worst(2, 1), 1);
        x.limit(13);
        due("36 only d", x.worst(2, 1), 3);
        x.drop(3);
        gift(x, "to children d when born");
        due("36 what", x.worst(0, 3), HIDDEN);
        due("36 what", x.worst(0, -1), HIDDEN);
        due("36 no such GIFT", x.worst(7, 0), HIDDEN);
        due("36 no such GIFT", x.worst(-1, 0), HIDDEN);
        x = made("a 60", "to children a when born");
        x.limit(59);
        for (int what = 0; what < 3; what++) {
            due("36 it has none", x.worst(0, what), HIDDEN);
        }
    }

    static void p37() {
        LaterLives x = made("a 60; b 30 of a");
        due("37 no GIFTS", x.firstBad(), NONE);
        gift(x, "to b when years 3");
        due("37 all GOOD", x.firstBad(), NONE);
        gift(x, "to b when years 22");
        gift(x, "to b when years 30");
        due("37 the first", x.firstBad(), 1);
        x.period(22);
        due("37 by PERIOD", x.firstBad(), 2);
        x.drop(1);
        due("37 its number", x.firstBad(), 1);
        x.period(30);
        due("37 all GOOD", x.firstBad(), NONE);
        x.period(2);
        due("37 GIFT 0", x.firstBad(), 0);
    }

    static void p38() {
        LaterLives x = made("a 60; b 30 of a", "to b when years 3");
        x.pass(5);
        x.birth(0);
        x.death(1);
        x.period(4);
        x.limit(50);
        x.drop(0);
        gift(x, "to a when born");
        due("38 a refused call is none", x.pass(0), NONE);
        due("38 ACTS", x.size(1), 8);
        due("38 GIFT told", x.undo(), 7);
        due("38 GIFT told", x.rule(6), 0);
        due("38 dropped", x.undo(), 6);
        due("38 dropped", x.told(0, 1), 1);
        due("38 LIMIT", x.undo(), 5);
        due("38 LIMIT", x.rule(8), 99);
        due("38 PERIOD", x.undo(), 4);
        due("38 PERIOD", x.rule(4), 21);
        due("38 death", x.undo(), 3);
        due("38 death", x.rule(2), 3);
        due("38 birth", x.undo(), 2);
        due("38 birth", x.rule(1), 2);
        due("38 YEARS", x.undo(), 1);
        due("38 YEARS", x.rule(0), 0);
        due("38 the first", x.undo(), 0);
        due("38 the first", x.rule(6), 0);
        due("38 none", x.undo(), NONE);
        due("38 STATUS is not UNDONE", x.status(2), 1);
        for (int i = 1; i <= 20; i++) {
            x.pass(1);
            due("38 sixteen at most", x.size(1), Math.min(i, 16));
        }
        for (int i = 15; i >= 0; i--) {
            due("38 back one by one", x.undo(), i);
        }
        due("38 the latest 16 alone", x.rule(0), 4);
        due("38 none", x.undo(), NONE);
        x.pass(7);
        due("38 again", x.size(1), 1);
        due("38 again", x.undo(), 0);
        due("38 again", x.rule(0), 4);
    }

    static void p39and40() {
        LaterLives x = made("a 60; b 30 of a", "to b when years 3");
        due("40 no IMAGE", x.back(), NONE);
        x.pass(5);
        x.birth(0);
        x.death(1);
        x.period(9);
        x.limit(77);
        due("39 now", x.image(), 5);
        due("39 ACTS stay", x.size(1), 6);
        x.pass(9);
        x.birth(0);
        x.death(0);
        x.period(1);
        x.limit(13);
        x.drop(0);
        story(x, "in 3");
        due("40 now", x.back(), 5);
        int[] rules = {5, 3, 1, NONE, 9, NONE, 1, 2, 77};
        for (int i = 0; i < rules.length; i++) {
            due("40 rule " + i, x.rule(i), rules[i]);
        }
        due("40 b's death", person(x, 1, 1), 5);
        due("40 the GIFT", x.told(0, 1), 1);
        due("40 no ACT can be UNDONE", x.size(1), 0);
        due("40 no ACT can be UNDONE", x.undo(), NONE);
        due("40 the STORY stays", x.storied(0), 3);
        x.pass(1);
        due("40 again", x.back(), 5);
        x.pass(2);
        due("39 instead of the one ahead", x.image(), 7);
        x.undo();
        due("40 the later one", x.back(), 7);
        tell(x, "a 5");
        x.family();
        due("40 none of a new FAMILY", x.back(), NONE);
        due("39 of the new FAMILY", x.image(), 0);
    }

    static void p41() {
        LaterLives x = new LaterLives();
        x.pass(1);
        x.birth(-5);
        due("41 no FAMILY is the first", x.status(0), 2);
        x = made("a 60; b 12");
        x.birth(7);
        x.death(7);
        x.drop(7);
        due("41 no such", x.status(1), 3);
        x.pass(0);
        x.period(100);
        x.limit(100);
        x.birth(0);
        gift(x, "to");
        due("41 out of bounds", x.status(2), 5);
        x.death(0);
        x.death(0);
        x.pass(1);
        x.birth(0);
        due("41 dead", x.status(3), 2);
        due("41 no room", x.status(4), 0);
        due("41 none else", x.status(5), NONE);
        due("41 none else", x.status(-1), NONE);
        int sum = x.status(0) + x.status(1) + x.status(2) + x.status(3) + x.status(4);
        due("41 told calls", sum, 10);
        x.family();
        x.story();
        x.undo();
        x.undo();
        x.undo();
        x.back();
        x.state(9);
        x.good(9);
        x.fault(9);
        x.end(-4);
        x.share(9, 9, 9);
        person(x, 99, 0);
        due("41 others are not counted", x.status(0) + x.status(1) + x.status(2) + x.status(3) + x.status(4), 10);
    }

    static void p42() {
        LaterLives x = made("a 60; b 30 of a; c 60; d 5 of b", "to d when dies b", "to d when years 30",
            "to d when years 30 or reaches 5", "to d when born and born");
        due("42 most children, the lowest", x.most(0), 0);
        due("42 the oldest, the lowest", x.most(1), 0);
        due("42 how many live", x.most(2), 4);
        due("42 GOOD ones", x.most(3), 3);
        due("42 STATE 2", x.most(4), 0);
        due("42 most Fs, the lowest", x.most(5), 2);
        due("42 nobody died", x.most(6), NONE);
        x.pass(10);
        x.birth(1);
        due("42 most children", x.most(0), 1);
        x.birth(0);
        due("42 the lowest", x.most(0), 0);
        due("42 how many live", x.most(2), 6);
        x.death(0);
        due("42 the oldest that lives", x.most(1), 2);
        x.death(1);
        due("42 the greatest age", x.most(6), 70);
        x.death(2);
        x.death(3);
        due("42 the oldest that lives, born since", x.most(1), 4);
        x.pass(30);
        due("42 STATE 2: d at 30 is in time", x.most(4), 0);
        x.period(19);
        due("42 STATE 2", x.most(4), 1);
        x.death(4);
        due("42 the greatest age", x.most(6), 70);
        x.death(5);
        due("42 none lives", x.most(1), NONE);
        due("42 none lives", x.most(2), 0);
        due("42 what", x.most(7), NONE);
        due("42 what", x.most(-1), NONE);
        x = made("a 60; b 30", "to b when years 50 and born", "to b when years 3");
        due("42 most Fs, GIFT 0", x.most(5), 0);
        x.period(0);
        x.death(0);
        x.death(1);
        x.pass(1);
        due("42 STATE 2, both", x.most(4), 2);
        x.pass(2);
        x.period(3);
        due("42 STATE 2 by THE END, none", x.most(4), 0);
        x.pass(1);
        due("42 STATE 2, GIFT 0 alone", x.most(4), 1);
        x = made("a 60; b 30");
        due("42 nobody has a child", x.most(0), 0);
        due("42 no GIFTS", x.most(5), NONE);
        due("42 no GIFTS", x.most(3), 0);
        due("42 no GIFTS", x.most(4), 0);
    }

    static void p43() {
        LaterLives x = made("a 60");
        add(x, "abc");
        due("43 bytes", x.size(0), 3);
        due("43 ACTS", x.size(1), 0);
        x.pass(3);
        due("43 ACTS", x.size(1), 1);
        due("43 others", x.size(2), NONE);
        due("43 others", x.size(-1), NONE);
    }

    public static void main(String[] arguments) {
        p1();
        p2();
        p3();
        p4family();
        p4gift();
        p4story();
        p5();
        p5more();
        p6();
        p7();
        p8();
        p9();
        p10();
        p11();
        p12();
        p13();
        p14();
        p15();
        p16();
        p17();
        p18facts();
        p18joints();
        p19();
        p20();
        p21();
        p22();
        p22late();
        p23();
        p24();
        p25();
        p26();
        p27();
        p28();
        p29();
        p29more();
        p30();
        p31();
        p32();
        p33();
        p33early();
        p34();
        p35();
        p36();
        p37();
        p38();
        p39and40();
        p41();
        p42();
        p43();
        tellHowItWent("promises 1 to 43: all answers are as due");
    }
}
