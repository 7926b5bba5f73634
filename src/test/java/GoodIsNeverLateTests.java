import java.util.Random;

/**
 * By no COURSE is a member of a GOOD GIFT LATE: THE TEST and COURSES, WHEN and BEHIND fit one another.
 * (If NAME reaches N were NEVER by the member's death instead of that LIFE's, many would be.)
 */
public final class GoodIsNeverLateTests extends Checks {
    static final String NAMES = "abcd";
    final Random random = new Random(7);

    String name() {
        return String.valueOf(NAMES.charAt(random.nextInt(NAMES.length())));
    }

    String fact(int depth) {
        switch (random.nextInt(depth > 0 ? 8 : 5)) {
            case 0: return "years " + random.nextInt(60);
            case 1: return "dies " + name();
            case 2: return "born";
            case 3: return "reaches " + random.nextInt(60);
            case 4: return name() + " reaches " + random.nextInt(99);
            case 5: case 6: return "after " + random.nextInt(25) + " " + fact(depth - 1);
            default: return "(" + any(depth - 1) + ")";
        }
    }

    String any(int depth) {
        StringBuilder b = new StringBuilder(fact(depth));
        for (int i = random.nextInt(3); i > 0; i--) {
            b.append(random.nextBoolean() ? " and " : " or ").append(fact(depth));
        }
        return b.toString();
    }

    LaterLives one() {
        String family = "a " + (40 + random.nextInt(50)) + ";b " + (14 + random.nextInt(13)) + " of a;c " + random.nextInt(2)
            + " of b;d " + random.nextInt(80);
        String whom = new String[] {"", "children ", "grandchildren "}[random.nextInt(3)];
        LaterLives x = made(family, "to " + whom + name() + " when " + any(2));
        if (random.nextInt(3) == 0) {
            x.limit(13 + random.nextInt(60));
        }
        x.period(random.nextInt(60));
        return x;
    }

    public static void main(String[] arguments) {
        GoodIsNeverLateTests tests = new GoodIsNeverLateTests();
        int good = 0;
        for (int i = 0; i < 8000; i++) {
            LaterLives x = tests.one();
            boolean fine = x.good(0) == 1;
            good += fine ? 1 : 0;
            due("lates(0) of a GOOD one, " + text(x, 0), fine ? x.lates(0) : 0, 0);
            due("witness(0) where lates(0) is 0, " + text(x, 0), x.witness(0) == NONE, x.lates(0) == 0);
        }
        due("GOOD ones and others", good > 2000 && good < 6000, true);
        tellHowItWent("by no course is one of " + good + " good gifts late");
    }
}
