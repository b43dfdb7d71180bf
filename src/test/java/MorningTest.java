/** Promise 16: morning, with what Terms tell of one. */
public final class MorningTest {
    public static void main(String[] args) {
        houses();
        hotOnes();
        feuds();
        mildOnes();
        shamOnes();
        allAtOnce();
        zeroAtLeast();
        twentyAtMost();
        takenTogetherFirst();
        tearsFirst();
        costsFirst();
        turns();
        turnsOfAll();
        notFullAheadOfThousandth();
        refused();
        Due.end();
    }

    private static void anger(QuarrelWindows x, int a, int b, int due) {
        Due.is(a + " at " + b, x.anger(a, b), due);
    }

    private static QuarrelWindows morningOf(String text) {
        QuarrelWindows x = Due.square(text);
        x.morning();
        return x;
    }

    private static void houses() {
        Due.promise(16, "of a HOUSE by 1 less, but not at the one it FRONTS; by 1 more at each that FRONTS it");
        QuarrelWindows x = Due.square("h1,h2,h3,h4;014102023");
        Due.is("a morning", x.morning(), 0);
        anger(x, 0, 1, 5);
        anger(x, 0, 2, 2);
        anger(x, 1, 0, 3);
        anger(x, 2, 0, 0);
        Due.is("mornings", x.count(9), 1);
        x = morningOf("h1,h2,h3;015026103");
        anger(x, 0, 1, 5);
        anger(x, 0, 2, 6);
        anger(x, 1, 0, 3);
        x = morningOf("h1,h2,h3;015");
        anger(x, 0, 1, 5);
        anger(x, 1, 0, 0);
        x = Due.square("h1,h2,h3;014022");
        x.build(0, 1, true);
        x.morning();
        anger(x, 0, 1, 3);
        anger(x, 0, 2, 2);
    }

    private static void hotOnes() {
        Due.promise(16, "of a HOT one that by 1 more");
        QuarrelWindows x = morningOf("t1,h2,h3;014025");
        anger(x, 0, 1, 3);
        anger(x, 0, 2, 6);
        anger(x, 2, 0, 0);
        x = morningOf("t1,t2,h3;014102");
        anger(x, 0, 1, 6);
        anger(x, 1, 0, 4);
        x = morningOf("t1,h2,h3;014025103");
        anger(x, 0, 1, 4);
    }

    private static void feuds() {
        Due.promise(16, "of a FEUD that by 2 more, if they STARE, else by 1 more");
        QuarrelWindows x = morningOf("f1,h2,h3;014023");
        anger(x, 0, 1, 5);
        anger(x, 0, 2, 2);
        x = morningOf("f1,h2,h3;014102023");
        anger(x, 0, 1, 7);
        anger(x, 0, 2, 2);
        anger(x, 1, 0, 3);
        x = morningOf("f1,h2,h3;014023202");
        anger(x, 0, 1, 5);
        anger(x, 0, 2, 3);
    }

    private static void mildOnes() {
        Due.promise(16, "of a MILD one all are by 2 less; each but a MILD one by 1 more at each that FRONTS it");
        QuarrelWindows x = morningOf("m1,h2,h3;014023102");
        anger(x, 0, 1, 2);
        anger(x, 0, 2, 1);
        anger(x, 1, 0, 3);
        x.morning();
        anger(x, 0, 1, 0);
        anger(x, 0, 2, 0);
        x = morningOf("m1,h2,h3;015026103");
        anger(x, 0, 1, 3);
        anger(x, 0, 2, 4);
    }

    private static void shamOnes() {
        Due.promise(16, "of a SHAM one as of a HOUSE");
        QuarrelWindows x = Due.square("s1,h2,h3;014023");
        Due.is("it turns to the other one", x.morning(), 1);
        anger(x, 0, 1, 3);
        anger(x, 0, 2, 3);
        Due.is("of like ones the least", x.house(0, 2), 1);
        x = Due.square("s1,h2,h3;012024102");
        Due.is("no window turns", x.morning(), 0);
        anger(x, 0, 1, 3);
        anger(x, 0, 2, 3);
    }

    private static void allAtOnce() {
        Due.promise(16, "all ANGERS change at once, by how WINDOWS FRONT ahead of it");
        // 0 fronts 1, and both front 0: so 0 is by 1 more angry at 1; at 2 by 1 less and by 1 more.
        QuarrelWindows x = Due.square("s1,h2,h3;013023104201");
        Due.is("0 turns to 2", x.morning(), 1);
        anger(x, 0, 1, 4);
        anger(x, 0, 2, 3);
        anger(x, 1, 0, 5);
        anger(x, 2, 0, 1);
        // Now 0 and 2 stare, and 1 fronts 0.
        Due.is("0 turns back to 1", x.morning(), 1);
        anger(x, 0, 1, 4);
        anger(x, 0, 2, 4);
        anger(x, 1, 0, 5);
        anger(x, 2, 0, 2);
    }

    private static void zeroAtLeast() {
        Due.promise(16, "ANGERS are 0 at least");
        QuarrelWindows x = morningOf("m1,m2,m3;011102123");
        anger(x, 0, 1, 0);
        anger(x, 1, 0, 0);
        anger(x, 1, 2, 1);
        anger(x, 0, 2, 0);
        x.morning();
        anger(x, 1, 2, 0);
        Due.is("all", x.count(2), 0);
        x = morningOf("h1,t2,f3,s4;012021123101319302");
        anger(x, 0, 2, 0);
        anger(x, 0, 3, 0);
        anger(x, 1, 0, 1);
        anger(x, 2, 1, 0);
        anger(x, 2, 3, 0);
        Due.mornings(x, 10);
        // Behind the eighth morning the sham one fronts 1, behind the ninth 0 again: it is angry at both by 1.
        anger(x, 3, 1, 0);
        anger(x, 3, 0, 1);
        anger(x, 0, 2, 0);
    }

    /** Two that stare, of a kind each; the first one is as angry as is told. */
    private static int behindStare(String kind, int anger) {
        QuarrelWindows x = Due.square(kind + "1,h2,h3;011101");
        while (x.anger(0, 1) < anger) {
            x.quarrel(0, 1, Math.min(9, anger - x.anger(0, 1)));
        }
        x.morning();
        return x.anger(0, 1);
    }

    private static int behindOneSided(String kind, int anger) {
        QuarrelWindows x = Due.square(kind + "1,h2,h3;011");
        while (x.anger(0, 1) < anger) {
            x.quarrel(0, 1, Math.min(9, anger - x.anger(0, 1)));
        }
        x.morning();
        return x.anger(0, 1);
    }

    private static void twentyAtMost() {
        Due.promise(16, "ANGERS are 20 at most");
        for (int anger = 15; anger <= 20; anger++) {
            Due.is("a house from " + anger, behindStare("h", anger), Math.min(20, anger + 1));
            Due.is("a hot one from " + anger, behindStare("t", anger), Math.min(20, anger + 2));
            Due.is("a mild one from " + anger, behindStare("m", anger), anger - 2);
            Due.is("a sham one from " + anger, behindStare("s", anger), Math.min(20, anger + 1));
            Due.is("a feud from " + anger, behindStare("f", anger), Math.min(20, anger + 3));
            Due.is("a house alone from " + anger, behindOneSided("h", anger), anger);
            Due.is("a hot one alone from " + anger, behindOneSided("t", anger), Math.min(20, anger + 1));
            Due.is("a mild one alone from " + anger, behindOneSided("m", anger), anger - 2);
            Due.is("a sham one alone from " + anger, behindOneSided("s", anger), anger);
            Due.is("a feud alone from " + anger, behindOneSided("f", anger), Math.min(20, anger + 1));
        }
    }

    private static void takenTogetherFirst() {
        Due.promise(16, "all that a MORNING changes in one taken together first");
        QuarrelWindows x = Due.square("h1,h2,h3;019019029029205");
        x.quarrel(0, 1, 2);
        x.quarrel(0, 2, 2);
        x.morning();
        Due.is("20, by 1 less and by 1 more", x.anger(0, 2), 20);
        anger(x, 0, 1, 20);
        String[] kinds = {"h", "t", "s", "f"};
        for (String kind : kinds) {
            // 1 is not fronted by 0, which it fronts; 0 is angry at it by nothing, or by 1.
            x = morningOf(kind + "1,h2,h3;105");
            Due.is("0 of " + kind + ", by 1 less and by 1 more", x.anger(0, 1), 0);
        }
        x = morningOf("h1,h2,h3;011023105");
        Due.is("1, by 1 less and by 1 more", x.anger(0, 1), 1);
        x = morningOf("m1,h2,h3;105");
        Due.is("0 of a mild one", x.anger(0, 1), 0);
    }

    private static void tearsFirst() {
        Due.promise(16, "first each that STARES has its washing TORN once more");
        QuarrelWindows x = Due.square("m1,m2,h3;012102");
        Due.is("both turn to the river", x.morning(), 2);
        Due.is("torn, as they stared ahead of it", x.count(13), 2);
        Due.is("torn of 0", x.house(0, 9), 1);
        Due.is("torn of 2", x.house(2, 9), 0);
        x.morning();
        Due.is("torn no more", x.count(13), 2);
        // 0 is sham and turns to 1, which comes to stare at it: the washing is torn the morning after.
        x = Due.square("s1,h2,h3;013022");
        Due.is("0 turns to 1", x.morning(), 1);
        x.quarrel(1, 0, 1);
        Due.is("none is torn yet", x.count(13), 0);
        x.morning();
        Due.is("now both are", x.house(0, 9) + 10 * x.house(1, 9), 11);
    }

    private static void costsFirst() {
        Due.promise(16, "first each in a RING a COST of 1 more");
        QuarrelWindows x = Due.square("h1,h2,h3,h4,h5;011101231341421");
        int[] torn = {1, 1, 0, 0, 0};
        for (int morning = 1; morning <= 3; morning++) {
            Due.is("a morning", x.morning(), 0);
            for (int house = 0; house < 5; house++) {
                Due.is("torn of " + house, x.house(house, 9), morning * torn[house]);
                Due.is("cost of " + house, x.house(house, 10), morning * (1 - torn[house]));
            }
        }
        Due.is("all that was torn", x.count(13), 6);
        Due.is("all costs", x.count(14), 9);
        x.peace(0, 1);
        x.court();
        x.morning();
        Due.is("torn no more", x.count(13), 6);
        Due.is("no more costs", x.count(14), 9);
        x = Due.square("m1,m2,m3;012122202");
        Due.is("all turn to the river", x.morning(), 3);
        Due.is("it cost, as they were in a ring ahead of it", x.count(14), 3);
        x = morningOf("h1,h2,h3,h4;011121201301");
        Due.is("one that leads into a ring has no cost", x.house(3, 10), 0);
        Due.is("costs", x.count(14), 3);
    }

    private static void turns() {
        Due.promise(16, "then WINDOWS TURN: how many");
        QuarrelWindows x = Due.square("m1,h2,h3;014102");
        Due.is("first morning", x.morning(), 0);
        Due.is("second morning", x.morning(), 1);
        Due.is("third morning", x.morning(), 0);
        Due.is("mornings", x.count(9), 3);
        Due.is("turned", x.count(10), 1);
        x.quarrel(0, 2, 9);
        x.peace(0, 2);
        x.build(1, 0, true);
        Due.is("only what turns on mornings", x.count(10), 1);
        x = Due.square("m1,m2,m3;021124205");
        Due.is("of the first", x.morning(), 1);
        Due.is("of the second", x.morning(), 1);
        Due.is("of the third", x.morning(), 1);
        Due.is("turned", x.count(10), 3);
    }

    private static void turnsOfAll() {
        QuarrelWindows x = Due.square("m1,m2,m3,m4,m5,m6;012122232342452502");
        Due.is("all six", x.morning(), 6);
        Due.is("turned", x.count(10), 6);
        x = Due.square("h1,h2,h3,h4,h5,h6;");
        Due.is("none, where none is angry", x.morning(), 0);
        // It turns from one house to another one.
        x = Due.square("s1,s2,h3;014023104123");
        Due.is("both sham ones", x.morning(), 2);
        Due.is("0 fronts 1", x.house(0, 2), 1);
        Due.is("1 fronts 0", x.house(1, 2), 0);
    }

    /**
     * The 1000th MORNING itself lies behind an object's 512th call, where answers are free: no test may ask
     * for it. Here are as many mornings as fit, none of them full, whatever is restored or read between.
     */
    private static void notFullAheadOfThousandth() {
        Due.promise(16, "FULL: it would be the 1000th, no earlier one");
        QuarrelWindows x = Due.square("f1,t2,h3;012102");
        for (int morning = 1; morning <= 490; morning++) {
            Due.is("morning " + morning, x.morning(), 0);
        }
        Due.is("mornings", x.count(9), 490);
        Due.is("torn", x.count(13), 980);
        x = Due.square("f1,t2,h3;012102");
        Due.mornings(x, 240);
        Due.is("an image", x.image(), 240);
        Due.mornings(x, 10);
        Due.is("restored", x.restore(), 240);
        Due.mornings(x, 200);
        Due.is("mornings since", x.count(9), 440);
        Due.type(x, "h1,h2,h3;");
        x.square();
        Due.is("the first one of another square", x.morning(), 0);
        Due.is("mornings", x.count(9), 1);
    }

    private static void refused() {
        Due.promise(16, "STATE: no SQUARE");
        Refusals.refusesNone("morning", y -> y.morning(), QuarrelWindows.STATE);
        Due.refuses("morning with a page", () -> Due.page("h1,h2,h3;"), y -> y.morning(), QuarrelWindows.STATE);
    }
}
