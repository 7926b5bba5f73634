import java.util.function.Supplier;

/** The bounds of the TAPE and of the TEXTS: promises 1 to 7, 15, 16 and the TEXTS of 23. */
public final class TextBoundsTests extends Checks {

    static LaterLives fresh() {
        return new LaterLives();
    }

    static LaterLives four() {
        return made(FOUR);
    }

    /** Things have happened; the TAPE has a TEXT that is a FAULT as each of the three. */
    static LaterLives lived() {
        LaterLives x = made(FOUR, "to children a when reaches 40", "to grandchildren a when born", "to d when years 22");
        story(x, "in 3; b bears; d dies");
        x.pass(10);
        x.birth(1);
        x.image();
        x.death(0);
        x.period(9);
        x.limit(50);
        tell(x, "to a when born or");
        return x;
    }

    static LaterLives livedWith(String tape) {
        LaterLives x = lived();
        tell(x, tape);
        return x;
    }

    static LaterLives full() {
        LaterLives x = made(FOUR);
        for (int i = 0; i < 8; i++) {
            gift(x, "to " + FOUR.charAt(new int[] {0, 6, 17, 27}[i % 4]) + " when years " + i);
        }
        return x;
    }

    static void aNewObject() {
        says(1, "No FAMILY.");
        due("bytes", fresh().size(0), 0);
        due("ACTS", fresh().size(1), 0);
        for (int i = -1; i < 10; i++) {
            due("rule " + i, fresh().rule(i), NONE);
            due("most " + i, fresh().most(i), NONE);
            due("storied " + i, fresh().storied(i), NONE);
            due("status " + i, fresh().status(i), i >= 0 && i < 5 ? 0 : NONE);
            due("person " + i, person(fresh(), i, 0), THROWN);
        }
        refused("gift()", TextBoundsTests::fresh, x -> x.gift(), NONE, 0);
        refused("drop(0)", TextBoundsTests::fresh, x -> x.drop(0), NONE, 0);
        refused("pass(1)", TextBoundsTests::fresh, x -> x.pass(1), NONE, 0);
        refused("birth(0)", TextBoundsTests::fresh, x -> x.birth(0), NONE, 0);
        refused("death(0)", TextBoundsTests::fresh, x -> x.death(0), NONE, 0);
        refused("period(21)", TextBoundsTests::fresh, x -> x.period(21), NONE, 0);
        refused("limit(99)", TextBoundsTests::fresh, x -> x.limit(99), NONE, 0);
        asked("family()", TextBoundsTests::fresh, x -> x.family(), NONE);
        asked("story()", TextBoundsTests::fresh, x -> x.story(), NONE);
        asked("undo()", TextBoundsTests::fresh, x -> x.undo(), NONE);
        asked("image()", TextBoundsTests::fresh, x -> x.image(), NONE);
        asked("back()", TextBoundsTests::fresh, x -> x.back(), NONE);
        asked("firstBad()", TextBoundsTests::fresh, x -> x.firstBad(), NONE);
        due("two objects are two", made("a 5").rule(7) * 10 + fresh().size(0), 10);
    }

    // ---- 2, 3: the TAPE

    static LaterLives blanks(int many) {
        LaterLives x = new LaterLives();
        add(x, times(" ", many));
        return x;
    }

    static void theTape() {
        says(2, "Twenty bytes more come to the TAPE (of each number the highest first; bytes of 0 are left out): how many it has.");
        LaterLives x = new LaterLives();
        due("five numbers in their order", x.feed(0x61203939, 0x3b206220, 0x3830206f, 0x6620613b, 0x20632037), 20);
        due("read in their order", x.family(), 3);
        due("a", person(x, 0, 0), -99);
        due("b", person(x, 1, 0), -80);
        due("b of a", person(x, 1, 2), 0);
        due("c", person(x, 2, 0), -7);
        due("zeros ahead, between, behind", x.feed(0x00006100, 0x20000034, 0x00350000, 0, 0x00000000), 4);
        due("read without them", x.family(), 1);
        due("of age 45", person(x, 0, 0), -45);
        for (int place = 0; place < 4; place++) {
            due("one byte at " + place, fresh().feed(0, 0, 'a' << 8 * place, 0, 0), 1);
            due("all but one at " + place, fresh().feed(0, 0, 0, 0, ~(255 << 8 * place)), 3);
        }
        due("none", fresh().feed(0, 0, 0, 0, 0), 0);
        due("a number below 0", fresh().feed(-1, 0, 0, 0, 0), 4);
        due("the least number", fresh().feed(MIN, MIN, MIN, MIN, MIN), 5);
        due("the greatest number", fresh().feed(MAX, MAX, MAX, MAX, MAX), 20);
        x = new LaterLives();
        x.feed(0x61203500, 0xff000000, 0, 0, 0);
        due("a byte of 255 stands for itself", x.fault(0), 3);
        says(2, "NONE: more than 300.");
        due("299 and 1", blanks(299).feed(0, 0, 0, 0, 32), 300);
        due("280 and 20", blanks(280).feed(-1, -1, -1, -1, -1), 300);
        due("300 and none", blanks(300).feed(0, 0, 0, 0, 0), 300);
        asked("300 and 1", () -> blanks(300), y -> y.feed(0, 0, 0, 0, 32), NONE);
        asked("300 and 20", () -> blanks(300), y -> y.feed(-1, -1, -1, -1, -1), NONE);
        asked("299 and 2", () -> blanks(299), y -> y.feed(97, 0, 0, 0, 97), NONE);
        asked("281 and 20", () -> blanks(281), y -> y.feed(-1, -1, -1, -1, -1), NONE);
        asked("297 and 4", () -> blanks(297), y -> y.feed(-1, 0, 0, 0, 0), NONE);
        asked("with a FAMILY", () -> livedWith(times("b", 300)), y -> y.feed(97, 0, 0, 0, 0), NONE);
        x = blanks(296);
        x.feed(-1, 97, 0, 0, 0);
        due("behind what was too much", x.feed(0x61203735, 0, 0, 0, 0), 300);
        due("it is the 297th to the 300th", x.family(), 1);
        due("of age 75", person(x, 0, 0), -75);
    }

    static void theEnd() {
        says(3, "The TAPE has its first n bytes alone.");
        int[] faults = {0, 1, 2, NONE, NONE, NONE, 6, NONE};
        for (int n = 0; n <= 7; n++) {
            LaterLives x = new LaterLives();
            add(x, "a 60 ;b");
            due("end(" + n + ")", x.end(n), true);
            due("then there are", x.size(0), n);
            due("one more isn't there", x.end(n + 1), false);
            due("these", x.fault(0), n < 6 ? faults[n] : n);
        }
        LaterLives x = new LaterLives();
        add(x, "a 60; b 7 of a");
        x.end(4);
        due("what comes then is behind these", add(x, ";c 1"), 8);
        due("c, not b", x.family(), 2);
        due("of age 1", person(x, 1, 0), -1);
        due("empty", x.end(0), true);
        x = blanks(300);
        due("300", x.end(300), true);
        says(3, "False: n.");
        int[] wrongs = {18, 19, 300, 301, MAX, -1, -2, -17, MIN};
        for (int n : wrongs) {
            asked("end(" + n + ")", TextBoundsTests::lived, y -> y.end(n) ? 1 : 0, 0);
        }
        asked("end(1) of none", TextBoundsTests::fresh, y -> y.end(1) ? 1 : 0, 0);
        asked("end(301) of 300", () -> blanks(300), y -> y.end(301) ? 1 : 0, 0);
    }

    // ---- 4: FAULTS

    static void faultKinds() {
        says(4, "-2: another what, no FAMILY (1, 2).");
        for (int what : new int[] {-1, -2, 3, 4, MIN, MAX}) {
            asked("fault(" + what + ")", TextBoundsTests::fresh, x -> x.fault(what), -2);
            asked("fault(" + what + ")", TextBoundsTests::lived, x -> x.fault(what), -2);
        }
        asked("fault(0), no FAMILY", TextBoundsTests::fresh, x -> x.fault(0), 0);
        asked("fault(1), no FAMILY", TextBoundsTests::fresh, x -> x.fault(1), -2);
        asked("fault(2), no FAMILY", TextBoundsTests::fresh, x -> x.fault(2), -2);
        asked("fault(1)", TextBoundsTests::lived, x -> x.fault(1), 17);
        asked("fault(1) where none is", () -> livedWith("to a when born"), x -> x.fault(1), NONE);
        asked("fault(1) where there are eight", () -> {
            LaterLives x = full();
            tell(x, "to a when born");
            return x;
        }, x -> x.fault(1), NONE);
        asked("fault(2) where none is", () -> livedWith("in 3"), x -> x.fault(2), NONE);
        asked("fault(0) where none is", () -> livedWith("a 3"), x -> x.fault(0), NONE);
    }

    /** The FAULT of the first n bytes, for each n; the places due are told with one letter for each n from 0 on. */
    static void cut(LaterLives x, int what, String text, int[] places) {
        due("places for '" + text + "'", places.length, text.length() + 1);
        for (int n = 0; n < places.length; n++) {
            faults(x, what, text.substring(0, n), places[n]);
        }
    }

    static void tooEarly() {
        says(4, "the length, if the TEXT ends too early");
        cut(fresh(), 0, "a 60; b 30 of a", new int[] {0, 1, 2, NONE, NONE, 5, 6, 7, 8, NONE, NONE, NONE, 11, 13, 14, NONE});
        cut(four(), 1, "to c when years 5", new int[] {0, 0, 2, 3, 4, 5, 5, 5, 5, 9, 10, 10, 10, 10, 10, 15, 16, NONE});
        cut(four(), 1, "to a when a reaches 5 ", new int[] {
            0, 0, 2, 3, 4, 5, 5, 5, 5, 9, 10, 11, 12, 12, 12, 12, 12, 12, 12, 19, 20, NONE, NONE});
        // b, d and a alone are NAMES, behind which reaches is to come
        cut(four(), 1, "to a when(born)and dies a", new int[] {
            0, 0, 2, 3, 4, 5, 5, 5, 5, 9, 10, 11, 10, 10, 14, NONE, 15, 15, 18, 19, 20, 19, 19, 23, 24, NONE});
        cut(four(), 1, "to b when after 5 or", new int[] {
            0, 0, 2, 3, 4, 5, 5, 5, 5, 9, 10, 11, 10, 10, 10, 15, 16, 17, 18, 18, 18});
        cut(four(), 2, "in 5; a dies;person 4 bears", new int[] {
            0, 0, 2, 3, NONE, 5, 6, 7, 8, 8, 8, 8, NONE, 13, 13, 13, 13, 13, 13, 19, 20, 21, 22, 22, 22, 22, 22, NONE});
        faults(fresh(), 0, times(" ", 300), 300);
        faults(fresh(), 0, "a 5;" + times(" ", 296), 300);
        faults(fresh(), 0, times(" ", 297) + "a 5", NONE);
        faults(fresh(), 0, "a 5" + times(" ", 297), NONE);
        faults(fresh(), 0, times(" ", 299) + "5", 299);
        faults(four(), 1, "to a when years" + times(" ", 285), 300);
        faults(four(), 2, "in" + times(" ", 298), 300);
    }

    static void bytesAndWords() {
        says(4, "Words (small letters) go as long as they can (a NAME is a word of one letter)");
        LaterLives x = null;
        for (int piece = 1; piece <= 255; piece++) {
            x = x == null || piece % 40 == 0 ? fresh() : x;
            char sign = (char) piece;
            boolean digit = sign >= '0' && sign <= '9';
            faults(x, 0, sign + " 5", sign >= 'a' && sign <= 'h' ? NONE : sign == ' ' ? 2 : 0);
            faults(x, 0, "a " + sign, digit ? NONE : sign == ' ' ? 3 : 2);
            faults(x, 0, "a 5" + sign, digit || sign == ' ' ? NONE : sign == ';' ? 4 : 3);
            faults(x, 0, "a" + sign + "5", digit || sign == ' ' ? NONE : sign >= 'a' && sign <= 'z' ? 0 : 1);
        }
        faults(fresh(), 0, "aa 5", 0);
        faults(fresh(), 0, "a 50; b 5 ofa", 10);
        faults(fresh(), 0, "a 50; b 5 o a", 10);
        faults(fresh(), 0, "a 50; b 5 off a", 10);
        faults(fresh(), 0, "a 50; b 5 of aa", 13);
        faults(four(), 1, "to aa when born", 3);
        faults(four(), 1, "to a when bornor born", 10);
        faults(four(), 1, "to a when born andborn", 15);
        faults(four(), 1, "to a whenyears 5", 5);
        faults(four(), 1, "to a when dies aa", 15);
        faults(four(), 1, "to A when born", 3);
        faults(four(), 1, "to a when Born", 10);
        faults(four(), 1, "to a when grandchildren", 10);
        faults(four(), 1, "to child a when born", 3);
        faults(four(), 1, "to grandchildrena when born", 3);
        says(4, "FAULT: where the first part begins that can't stand there: a word, a NUMBER (of more digits, out of bounds, too), another byte");
        faults(fresh(), 0, "  of 5", 2);
        faults(fresh(), 0, "  5 a", 2);
        faults(fresh(), 0, "  ; a 5", 2);
        faults(fresh(), 0, "a  zz", 3);
        faults(fresh(), 0, "a  1000", 3);
        faults(fresh(), 0, "a  100", 3);
        faults(fresh(), 0, "a 5  7 ; a", 5);
        faults(four(), 1, "to  5", 4);
        faults(four(), 1, "to a  then", 6);
        faults(four(), 1, "to a when  after  100  100", 18);
        faults(four(), 1, "to a when  after  10000  x", 18);
        faults(four(), 1, "to a when born  but", 16);
        faults(four(), 1, "to a when born  5", 16);
        faults(four(), 1, "to a when born  (born)", 16);
        faults(four(), 1, "to a when years  (", 17);
        faults(four(), 2, "in  a", 4);
        faults(four(), 2, "a  in", 3);
        faults(four(), 2, "a dies  in 5", 8);
        faults(four(), 2, "person  1000 dies", 8);
        says(4, "NUMBERS 1 to 3 digits as long as they can");
        faults(fresh(), 0, "a 0", NONE);
        faults(fresh(), 0, "a 00", NONE);
        faults(fresh(), 0, "a 000", NONE);
        faults(fresh(), 0, "a 0000", 2);
        faults(fresh(), 0, "a 0000000000000000000000000000005", 2);
        faults(fresh(), 0, "a 4294967301", 2);
        faults(fresh(), 0, "a 5 5", 4);
        faults(fresh(), 0, "a 5a", 3);
        faults(four(), 2, "in 0399", 3);
        faults(four(), 2, "person 0023 dies", 7);
        faults(four(), 2, "person 023 dies", NONE);
        says(4, "blanks (32) may stand ahead of and behind all, and ; .");
        faults(fresh(), 0, "   a   60   ;   b   30   of   a   ", NONE);
        faults(fresh(), 0, "a60;b30of a", NONE);
        faults(four(), 1, "  to  children  a  when  (  after  5  (  born  )  or  years  5  )  ", NONE);
        faults(four(), 1, "to children a when(after5(born)or years5)", NONE);
        faults(four(), 2, "  in  5  ;  a  dies  ;  person  4  bears  ", NONE);
        faults(four(), 2, "in5;a dies;person4bears", NONE);
        faults(four(), 1, "to a when born;", 14);
        faults(four(), 1, "to a; when born", 4);
        faults(four(), 2, ";in 5", 0);
        faults(fresh(), 0, ";a 5", 0);
    }

    static void familyFaults() {
        says(4, "PIECES with ; between, 1 to 8");
        says(4, "the ninth PIECE at its word");
        StringBuilder family = new StringBuilder();
        for (int many = 0; many <= 8; many++) {
            faults(fresh(), 0, family.toString(), many == 0 ? 0 : NONE);
            if (many < 8) {
                family.append(many > 0 ? ";" : "").append((char) ('h' - many)).append(many);
            }
        }
        faults(fresh(), 0, family + ";", 24);
        faults(fresh(), 0, family + " ; ", 26);
        faults(fresh(), 0, family + " ;  i 5", 27);
        faults(fresh(), 0, family + ";a 5", 24);
        faults(fresh(), 0, family + ";zz", 24);
        faults(fresh(), 0, family + " 5", 24);
        says(4, "a NAME (a letter a to h, not told yet)");
        for (char c = 'a'; c <= 'z'; c++) {
            faults(fresh(), 0, c + " 5", c <= 'h' ? NONE : 0);
            faults(fresh(), 0, "c 6; " + c + " 5", c <= 'h' && c != 'c' ? NONE : 5);
        }
        faults(fresh(), 0, "a 6; b 6; a 5", 10);
        says(4, "an AGE (0 to 99)");
        for (int age : new int[] {0, 1, 98, 99, 100, 101, 255, 256, 999}) {
            faults(fresh(), 0, "a " + age, age <= 99 ? NONE : 2);
        }
        faults(fresh(), 0, "a -1", 2);
        faults(fresh(), 0, "a 1000", 2);
        says(4, "who must be 13 years older at least");
        for (int parent = 0; parent <= 99; parent += 11) {
            for (int age = Math.max(0, parent - 15); age <= 99; age += age < parent + 2 ? 1 : 40) {
                String ahead = "a " + parent + "; b " + age + " of ";
                faults(fresh(), 0, ahead + "a", parent - age >= 13 ? NONE : ahead.length());
            }
        }
    }

    static void parents() {
        says(4, "a PARENT (told not ahead, too young) at the NAME");
        faults(fresh(), 0, "a 13; b 0 of a", NONE);
        faults(fresh(), 0, "a 12; b 0 of a", 13);
        faults(fresh(), 0, "a 99; b 86 of  a", NONE);
        faults(fresh(), 0, "a 99; b 87 of  a", 15);
        faults(fresh(), 0, "a 99; b 99 of a", 14);
        faults(fresh(), 0, "b 60 of b", 8);
        faults(fresh(), 0, "b 5 of a; a 60", 7);
        faults(fresh(), 0, "a 60; b 5 of c; c 60", 13);
        faults(fresh(), 0, "a 60; b 5 of b", 13);
        faults(fresh(), 0, "a 60; b 5 of i", 13);
        faults(fresh(), 0, "a 60; b 5 of 7", 13);
        faults(fresh(), 0, "a 60; b 5 of ;", 13);
        faults(fresh(), 0, "a 60; c 20; b 5 of a; d 7 of c", NONE);
        faults(fresh(), 0, "a 60; c 19; b 5 of a; d 7 of c", 29);
        faults(fresh(), 0, "a 60; b 5 of a 7", 15);
        faults(fresh(), 0, "a99;b86of a;c73of b;d60of c;e47of d;f34of e;g21of f;h8of g", NONE);
        faults(fresh(), 0, "a99;b86of a;c73of b;d60of c;e47of d;f34of e;g21of f;h9of g", 57);
    }

    static void giftFaults() {
        says(4, "(NAMES of LIVES)");
        LaterLives x = null;
        for (char c = 'a'; c <= 'z'; c++) {
            x = made("h 60; b 30 of h");
            boolean life = c == 'h' || c == 'b';
            faults(x, 1, "to " + c + " when born", life ? NONE : 3);
            faults(x, 1, "to children " + c + " when born", life ? NONE : 12);
            faults(x, 1, "to grandchildren " + c + " when born", life ? NONE : 17);
            faults(x, 1, "to h when dies " + c, life ? NONE : 15);
            faults(x, 1, "to h when " + c + " reaches 5", life ? NONE : 10);
        }
        x = made("h 60; b 30 of h");
        faults(x, 1, "to person 0 when born", 3);
        x.pass(1);
        x.birth(0);
        faults(x, 1, "to c when born", 3);
        faults(x, 2, "c dies", 0);
        for (char c = 'a'; c <= 'z'; c++) {
            faults(x, 2, c + " dies", c == 'h' || c == 'b' ? NONE : 0);
        }
        says(4, "N: 0 to 99.");
        x = four();
        for (String ahead : new String[] {"years ", "reaches ", "c reaches ", "born and after 7 reaches "}) {
            for (int n : new int[] {0, 1, 98, 99, 100, 101, 999}) {
                faults(x, 1, "to a when " + ahead + n, n <= 99 ? NONE : 10 + ahead.length());
            }
            faults(x, 1, "to a when " + ahead + "-1", 10 + ahead.length());
            faults(x, 1, "to a when " + ahead + "0099", 10 + ahead.length());
            faults(x, 1, "to a when " + ahead + "099", NONE);
        }
        x = four();
        for (int n : new int[] {0, 1, 98, 99, 100, 101, 999}) {
            faults(x, 1, "to a when after " + n + " born", n <= 99 ? NONE : 16);
        }
        faults(x, 1, "to a when after 1000 born", 16);
        faults(x, 1, "to a when ()", 11);
        faults(x, 1, "to a when ( ) and born", 12);
        faults(x, 1, "to a when )", 10);
        faults(x, 1, "to a when (born))", 16);
        faults(x, 1, "to a when born born", 15);
        faults(x, 1, "to a when born and or born", 19);
    }

    static void within() {
        says(4, "FAULT likewise; a sixth ( or after within one another");
        for (int mask = 0; mask < 64; mask++) {
            LaterLives x = four();
            StringBuilder open = new StringBuilder("to a when ");
            String close = "";
            int sixth = 0;
            for (int i = 0; i < 6; i++) {
                if (i == 5) {
                    faults(x, 1, open + "born" + close, NONE);
                    faults(x, 1, open + "born" + close + " or " + open.substring(10) + "reaches 4" + close, NONE);
                }
                sixth = open.length();
                boolean group = (mask >> i & 1) == 0;
                open.append(group ? "( " : "after 9 ");
                close += group ? ")" : "";
            }
            faults(x, 1, open + "born" + close, sixth);
            faults(x, 1, open.toString(), sixth);
        }
        says(4, "a 17th F (of any sort but ( ) at its begin");
        LaterLives x = four();
        String sixteen = "to a when born" + times(" or born", 15);
        String fifteen = "to a when born" + times(" or born", 14);
        faults(x, 1, sixteen, NONE);
        for (String fact : new String[] {"years 5", "dies a", "born", "reaches 5", "c reaches 5"}) {
            faults(x, 1, sixteen + " or " + fact, 138);
            faults(x, 1, sixteen + "  and   " + fact, 142);
            faults(x, 1, fifteen + " or " + fact, NONE);
            faults(x, 1, fifteen + " or " + fact + " or ((" + fact, 136 + fact.length());
        }
        faults(x, 1, sixteen + " or after 5 born", 138);
        faults(x, 1, fifteen + " or after 5 born", 138);
        faults(x, 1, "to a when born" + times(" or born", 13) + " or after 5 born", NONE);
        faults(x, 1, fifteen + " or (((((born)))))", NONE);
        faults(x, 1, sixteen + " or (born", 139);
        faults(x, 1, "to a when (" + sixteen.substring(10) + ")", NONE);
        faults(x, 1, "to a when (" + sixteen.substring(10) + " or born)", 139);
        faults(x, 1, "to a when " + times("after 1 ", 5) + "born" + times(" and " + times("after 1 ", 5) + "born", 1)
            + times(" or born", 4), NONE);
        faults(x, 1, "to a when " + times("after 1 ", 5) + "born" + times(" and " + times("after 1 ", 5) + "born", 1)
            + times(" or born", 5), 139);
    }

    static void storyFaults() {
        says(4, "EVENTS with ; between, 1 to 30");
        says(4, "the 31st EVENT at its begin");
        LaterLives x = four();
        faults(x, 2, "", 0);
        faults(x, 2, "in 0", NONE);
        faults(x, 2, "in 0" + times(";in 0", 28), NONE);
        faults(x, 2, "in 0" + times(";in 0", 29), NONE);
        faults(x, 2, "in 0" + times(";in 0", 30), 150);
        faults(x, 2, "a dies" + times(";in 0", 29) + " ; b dies", 154);
        faults(x, 2, "in 0" + times(";in 0", 29) + ";", 150);
        faults(x, 2, "in 0" + times(";in 0", 29) + "; person 99", 151);
        faults(x, 2, "in 0" + times(";in 0", 29) + " 5", 150);
        says(4, "in N (0 to 399: it is that YEAR; not below the one it is)");
        for (int n : new int[] {0, 1, 255, 256, 398, 399, 400, 401, 999}) {
            faults(x, 2, "in " + n, n <= 399 ? NONE : 3);
        }
        faults(x, 2, "in 1000", 3);
        faults(x, 2, "in -1", 3);
        says(4, "FAULT likewise (a YEAR below, too;");
        faults(x, 2, "in 1;in 1", NONE);
        faults(x, 2, "in 1;in 0", 8);
        faults(x, 2, "in 399;in 399", NONE);
        faults(x, 2, "in 399;a dies;in  398", 18);
        faults(x, 2, "in 5;in 9;in 7", 13);
        faults(x, 2, "in 5;in 9;in 9;in 10", NONE);
        x.pass(50);
        faults(x, 2, "in 0", NONE);
        says(4, "WHO: a NAME of a LIFE, or person N (0 to 23)");
        for (int n : new int[] {0, 1, 3, 4, 22, 23, 24, 25, 99, 100, 999}) {
            faults(x, 2, "person " + n + " dies", n <= 23 ? NONE : 7);
            faults(x, 2, "in 5; person " + n + " bears", n <= 23 ? NONE : 13);
        }
        faults(x, 2, "person 0", 8);
        faults(x, 2, "person a dies", 7);
        faults(x, 2, "a bear", 2);
        faults(x, 2, "a dies 5", 7);
        faults(x, 2, "a dies bears", 7);
        faults(x, 2, "e dies", 0);
        faults(x, 2, "dies", 0);
        faults(x, 2, "a; b dies", 1);
    }

    // ---- 5: family()

    static void families() {
        says(5, "how many LIVES");
        StringBuilder family = new StringBuilder();
        for (int many = 1; many <= 8; many++) {
            family.append(many > 1 ? ";" : "").append((char) ('a' + many - 1)).append(" 9").append(many);
            LaterLives x = fresh();
            tell(x, family.toString());
            due("family()", x.family(), many);
            due("the TAPE is empty", x.size(0), 0);
            due("LIVES", x.rule(7), many);
            due("PERSONS", x.rule(1), many);
            due("all live", x.rule(2), (1 << many) - 1);
            due("the last one", person(x, many - 1, 0), -90 - many);
            due("no more", person(x, many, 0), THROWN);
        }
        says(5, "YEAR 0 is now; a LIFE was born in the YEAR that is 0 less its AGE");
        LaterLives x = fresh();
        tell(x, "h 0; a 99; b 86 of a; c 0 of b");
        x.family();
        due("LIFE 0 is the first one told", person(x, 0, 0), 0);
        due("of AGE 99", person(x, 1, 0), -99);
        due("13 years", person(x, 2, 2), 1);
        due("without a PARENT", person(x, 0, 2), NONE);
        says(5, "(YEAR 0, PERIOD 21, LIMIT 99, no GIFTS, no ACTS, no IMAGE, no STORY)");
        x = livedWith("c 40; b 20 of c");
        due("family()", x.family(), 2);
        int[] rules = {0, 2, 3, NONE, 21, NONE, 0, 2, 99};
        for (int i = 0; i < rules.length; i++) {
            due("rule " + i, x.rule(i), rules[i]);
        }
        due("no ACTS", x.size(1), 0);
        due("no ACTS", x.undo(), NONE);
        due("no IMAGE", x.back(), NONE);
        due("no STORY", x.storied(0), NONE);
        due("no GIFT", x.told(0, 0), NONE);
        due("no deaths", person(x, 0, 1), HIDDEN);
        due("children", person(x, 0, 4), 1);
        due("none born since", person(x, 2, 0), THROWN);
        due("all is as in a new one", view(x).equals(view(made("c 40; b 20 of c"))), true);
        says(5, "NONE: a FAULT (all stays, the TAPE, too).");
        for (String text : new String[] {"", " ", "a", "a 100", "a 5;", "a 5; a 6", "a 5; b 5 of a", "i 5", "a1;b1;c1;d1;e1;f1;g1;h1;a1"}) {
            asked("family() of " + text, () -> livedWith(text), y -> y.family(), NONE);
        }
        asked("family() of a GIFT", () -> livedWith("to a when born"), y -> y.family(), NONE);
        x = livedWith("a 5; b 5 of a");
        x.family();
        due("the NAMES stay, too", gift(x, "to d when born"), 3);
        x = livedWith("a 5; b 5");
        x.family();
        due("the NAMES are the new ones", gift(x, "to c when born"), NONE);
        due("the NAMES are the new ones", gift(x, "to b when born"), 0);
    }

    // ---- 6, 7: GIFTS

    static void gifts() {
        says(6, "its number (0 on; 8 at most)");
        LaterLives x = four();
        for (int i = 0; i < 8; i++) {
            due("its number", gift(x, "to a when years " + i), i);
            due("the TAPE is empty", x.size(0), 0);
            due("GIFTS", x.rule(6), i + 1);
            due("an ACT", x.size(1), i + 1);
        }
        Supplier<LaterLives> eight = () -> {
            LaterLives y = full();
            tell(y, "to a when born");
            return y;
        };
        refused("the ninth", eight, y -> y.gift(), NONE, 4);
        x = eight.get();
        x.gift();
        due("the TAPE stays", x.size(0), 14);
        x.drop(7);
        due("it can be told then", x.gift(), 7);
        due("as an eighth", x.told(7, 1), 0);
        says(6, "NONE: no FAMILY (STATUS 0), a FAULT (2), there are eight (4) (the TAPE stays).");
        refused("a FAULT", TextBoundsTests::lived, y -> y.gift(), NONE, 2);
        x = lived();
        x.gift();
        due("the TAPE stays", x.size(0), 17);
        add(x, " born");
        due("and can be gone on with", x.gift(), 3);
        due("as it was", x.written(3, NONE), 22);
        refused("none told", () -> livedWith(""), y -> y.gift(), NONE, 2);
        refused("a FAMILY", () -> livedWith(FOUR), y -> y.gift(), NONE, 2);
        refused("a NAME that isn't there", () -> livedWith("to e when born"), y -> y.gift(), NONE, 2);
        refused("no FAMILY", () -> {
            LaterLives y = fresh();
            tell(y, "to a when born");
            return y;
        }, y -> y.gift(), NONE, 0);
        says(6, "of several the first");
        refused("no FAMILY, a FAULT", () -> {
            LaterLives y = fresh();
            tell(y, "to a when");
            return y;
        }, y -> y.gift(), NONE, 0);
        refused("a FAULT, there are eight", () -> {
            LaterLives y = full();
            tell(y, "to a when");
            return y;
        }, y -> y.gift(), NONE, 2);
    }

    /** The longest TEXTS and the shortest in turn: what was read ahead leaves nothing. */
    static void oneBehindAnother() {
        says(6, "The TAPE (empty then) is a GIFT more");
        String big = "to a when years 22" + times(" and years 22", 15);
        LaterLives x = four();
        for (int i = 0; i < 8; i++) {
            boolean small = i % 2 == 1;
            faults(x, 1, big + " and", NONE + big.length() + 5);
            faults(x, 1, big, NONE);
            due("a GIFT", gift(x, small ? "to b when years 3" : big), i);
            due("Fs of " + i, x.told(i, 2), small ? 1 : 16);
            due("Ts of " + i, x.told(i, 3), 1);
            due("LIFE of " + i, x.told(i, 1), small ? 1 : 0);
            due("bytes of " + i, x.written(i, NONE), small ? 17 : big.length());
            due("GOOD is " + i, x.good(i), small ? 1 : 0);
            due("SOONEST of " + i, x.soonest(i, 0, small ? 1 : 0), small ? 3 : 22);
        }
        x = four();
        String story = "in 1" + times(";a bears", 20) + times(";in 2", 9);
        for (int i = 0; i < 8; i++) {
            due("a STORY of 30", story(x, story), 30);
            due("its PERSONS", x.storied(1), 24);
            due("a STORY of 1", story(x, "b dies"), 1);
            due("its PERSONS", x.storied(1), 4);
            due("its YEAR", x.storied(0), 0);
        }
    }

    static void drops() {
        says(7, "A GIFT goes (those behind it have numbers 1 less)");
        int[] lives = {0, 1, 2, 3, 0, 1, 2, 3};
        for (int gone = 0; gone < 8; gone++) {
            LaterLives x = full();
            due("drop(" + gone + ")", x.drop(gone), 7);
            for (int i = 0; i < 7; i++) {
                due("drop(" + gone + "), LIFE of " + i, x.told(i, 1), lives[i < gone ? i : i + 1]);
                due("drop(" + gone + "), NUMBER of " + i, x.written(i, 16), '0' + (i < gone ? i : i + 1));
            }
            due("no eighth", x.told(7, 0), NONE);
            due("an ACT", x.size(1), 9);
            due("the next one", gift(x, "to a when born"), 7);
        }
        LaterLives x = full();
        for (int left = 7; left >= 0; left--) {
            due("the first goes", x.drop(0), left);
            for (int none = left; none <= 8; none++) {
                due("no GIFT " + none, x.told(none, 0), NONE);
            }
            due("the last one stays", left == 0 ? '7' : x.written(left - 1, 16), '7');
        }
        x = made(FOUR, "to a when born");
        due("the only one", x.drop(0), 0);
        due("none", x.rule(6), 0);
        says(7, "NONE: no FAMILY (STATUS 0), no such one (1).");
        for (int gift : new int[] {-1, 3, 4, 8, MIN, MAX}) {
            refused("drop(" + gift + ")", TextBoundsTests::lived, y -> y.drop(gift), NONE, 1);
            refused("no FAMILY, drop(" + gift + ")", TextBoundsTests::fresh, y -> y.drop(gift), NONE, 0);
        }
        refused("drop(8) of eight", TextBoundsTests::full, y -> y.drop(8), NONE, 1);
        refused("drop(0) of none", TextBoundsTests::four, y -> y.drop(0), NONE, 1);
    }

    // ---- 15, 16: what was told

    static void told() {
        says(15, "to one, 1 to children, 2 to grandchildren (what 0); of which LIFE (1); how many Fs (2; ( is none), Ts of its E (3)");
        LaterLives x = made("a1;b1;c1;d1;e1;f1;g1;h1", "to a when born", "to children h when (born)",
            "to grandchildren d when ((born or born)) and (born) or after 5 after 5 (born)",
            "to h when born" + times(" and born", 15), "to h when born" + times(" or born", 15));
        int[][] due = {{0, 0, 1, 1}, {1, 7, 1, 1}, {2, 3, 6, 2}, {0, 7, 16, 1}, {0, 7, 16, 16}};
        for (int g = 0; g < due.length; g++) {
            for (int what = 0; what < 4; what++) {
                due("told(" + g + ", " + what + ")", x.told(g, what), due[g][what]);
            }
        }
        says(15, "NONE: no such ones.");
        for (int none : new int[] {-1, 4, 5, MIN, MAX}) {
            asked("told(0, " + none + ")", TextBoundsTests::lived, y -> y.told(0, none), NONE);
            asked("told(" + none + ", 0)", TextBoundsTests::lived, y -> y.told(none, 0), NONE);
        }
        asked("told(3, 0) of three", TextBoundsTests::lived, y -> y.told(3, 0), NONE);
        asked("told(8, 0) of eight", TextBoundsTests::full, y -> y.told(8, 0), NONE);
        due("told(7, 1) of eight", full().told(7, 1), 3);
        due("told(2, 1) of three", lived().told(2, 1), 3);
        asked("told(0, 0) without a FAMILY", TextBoundsTests::fresh, y -> y.told(0, 0), NONE);
    }

    static void written() {
        says(16, "WRITTEN: \"to \", (children , grandchildren ) NAME, \" when \", E: one blank between words, NUMBERS, ( and ), too; a ( only where "
            + "it was told.");
        writes("to a when born", "to a when born");
        writes("   to   children   a   when   born   ", "to children a when born");
        writes("to grandchildren a when(((((born)))))", "to grandchildren a when ( ( ( ( ( born ) ) ) ) )");
        writes("to a when years 0or years 00or years 000", "to a when years 0 or years 0 or years 0");
        writes("to a when years 9or years 09or years 009", "to a when years 9 or years 9 or years 9");
        writes("to a when reaches 10and a reaches 010", "to a when reaches 10 and a reaches 10");
        writes("to a when after 099after 99(born)", "to a when after 99 after 99 ( born )");
        writes("to d when born and (born or dies d)", "to d when born and ( born or dies d )");
        String each = "(((((born)))))";
        String eachWritten = "( ( ( ( ( born ) ) ) ) )";
        LaterLives x = made(FOUR, "to a when" + each + times("or" + each, 15));
        due("its length", x.written(0, NONE), 9 + 16 * 25 + 15 * 3);
        due("the last byte", x.written(0, 9 + 16 * 25 + 15 * 3 - 1), ')');
        due("the one ahead", x.written(0, 9 + 16 * 25 + 15 * 3 - 2), ' ');
        due("behind it", x.written(0, 9 + 16 * 25 + 15 * 3), NONE);
        writes("to a when" + each + times("or" + each, 7), "to a when " + eachWritten + times(" or " + eachWritten, 7));
        String long300 = "to a when" + times(" ", 287) + "born";
        due("300 bytes", long300.length(), 300);
        writes(long300, "to a when born");
        says(16, "The k-th byte of a GIFT WRITTEN (k NONE: how many). NONE: no such ones.");
        x = made(FOUR, "to b when born");
        due("how many", x.written(0, NONE), 14);
        due("the first", x.written(0, 0), 't');
        due("the last", x.written(0, 13), 'n');
        for (int k : new int[] {14, 15, 300, 600, 601, -2, MIN, MAX}) {
            asked("written(2, " + k + ")", TextBoundsTests::lived, y -> y.written(2, k > 0 && k < 20 ? k + 4 : k), NONE);
        }
        for (int gift : new int[] {-1, 3, 8, MIN, MAX}) {
            asked("written(" + gift + ", 0)", TextBoundsTests::lived, y -> y.written(gift, 0), NONE);
            asked("written(" + gift + ", NONE)", TextBoundsTests::lived, y -> y.written(gift, NONE), NONE);
        }
        asked("written(0, NONE) without a FAMILY", TextBoundsTests::fresh, y -> y.written(0, NONE), NONE);
        due("of the last of eight", full().written(7, 16), '7');
    }

    public static void main(String[] arguments) {
        aNewObject();
        theTape();
        theEnd();
        faultKinds();
        tooEarly();
        bytesAndWords();
        familyFaults();
        parents();
        giftFaults();
        within();
        storyFaults();
        families();
        gifts();
        oneBehindAnother();
        drops();
        told();
        written();
        covered(1, 7);
        covered(15, 16);
        tellHowItWent("bounds of TEXTS: all answers are as due");
    }
}
