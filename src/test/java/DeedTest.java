/** Promises 11 to 16: quarrel, peace, build, tenant, court, morning. */
public final class DeedTest {
    public static void main(String[] args) {
        quarrels();
        peaces();
        builds();
        tenants();
        courts();
        courtOfTwoRings();
        morningOfHouses();
        morningOfHotOnes();
        morningOfFeuds();
        morningOfMildOnes();
        morningOfShamOnes();
        morningBounds();
        morningTearsAndCosts();
        morningTurns();
        Due.end();
    }

    private static void quarrels() {
        QuarrelWindows x = Due.square("h1,h2,h3;013024");
        Due.is("quarrel", x.quarrel(0, 1, 1), 4);
        Due.is("the window turns at once", x.house(0, 2), 1);
        Due.is("no morning saw it turn", x.count(10), 0);
        Due.is("quarrel by 9", x.quarrel(0, 1, 9), 13);
        Due.is("not the other way round", x.anger(1, 0), 0);
        Due.is("20 at most", x.quarrel(0, 1, 9), 20);
        Due.is("anger", x.anger(0, 1), 20);
        Due.is("quarrels", x.count(11), 3);
        Due.refuses("by 0", x, y -> y.quarrel(0, 1, 0), QuarrelWindows.OUTSIDE);
        Due.refuses("by 10", x, y -> y.quarrel(0, 1, 10), QuarrelWindows.OUTSIDE);
        Due.refuses("by -1", x, y -> y.quarrel(0, 2, -1), QuarrelWindows.OUTSIDE);
        Due.refuses("with itself", x, y -> y.quarrel(1, 1, 0), QuarrelWindows.UNKNOWN);
        Due.refuses("of house 3", x, y -> y.quarrel(3, 0, 10), QuarrelWindows.UNKNOWN);
        Due.refuses("with house 3", x, y -> y.quarrel(0, 3, 1), QuarrelWindows.UNKNOWN);
        Due.refuses("of house -1", x, y -> y.quarrel(-1, 0, 1), QuarrelWindows.UNKNOWN);
        Due.refuses("with house -1", x, y -> y.quarrel(0, -1, 1), QuarrelWindows.UNKNOWN);
    }

    private static void peaces() {
        QuarrelWindows x = Due.square("h1,h2,h3;013104021125");
        Due.is("peace", x.peace(1, 0), 7);
        Due.is("0 at 1", x.anger(0, 1), 0);
        Due.is("1 at 0", x.anger(1, 0), 0);
        Due.is("other angers stay", x.count(2), 6);
        Due.is("the window of 0 turns", x.house(0, 2), 2);
        Due.refuses("neither was", x, y -> y.peace(0, 1), QuarrelWindows.STATE);
        Due.is("one alone was", x.peace(2, 0), 1);
        Due.is("the river again", x.house(0, 2), -1);
        Due.is("peaces", x.count(12), 2);
        Due.refuses("with itself", x, y -> y.peace(1, 1), QuarrelWindows.UNKNOWN);
        Due.refuses("of house 3", x, y -> y.peace(3, 0), QuarrelWindows.UNKNOWN);
        Due.refuses("with house 3", x, y -> y.peace(1, 3), QuarrelWindows.UNKNOWN);
        Due.refuses("of house -1", x, y -> y.peace(-1, 1), QuarrelWindows.UNKNOWN);
        x.quarrel(1, 0, 2);
        Due.is("peace behind a wall", x.build(0, 1, true) + x.peace(0, 1), 2);
    }

    private static void builds() {
        QuarrelWindows x = Due.square("h1,h2,h3;013101022");
        Due.is("a wall", x.build(0, 1, true), 0);
        Due.is("the window of 0 turns", x.house(0, 2), 2);
        Due.is("that of 1, too", x.house(1, 2), -1);
        Due.is("built again", x.build(1, 0, true), 1);
        Due.is("it is one wall", x.count(8), 1);
        Due.is("another one", x.build(2, 1, true), 0);
        Due.is("walls", x.count(8), 2);
        Due.is("pulled down", x.build(1, 0, false), 1);
        Due.is("pulled down again", x.build(0, 1, false), 0);
        Due.is("one is left", x.count(8), 1);
        Due.is("the windows turn back", 10 * x.house(0, 2) + x.house(1, 2), 10);
        Due.is("angers stay", x.count(2), 6);
        Due.refuses("of itself", x, y -> y.build(2, 2, true), QuarrelWindows.UNKNOWN);
        Due.refuses("of house 3", x, y -> y.build(3, 2, true), QuarrelWindows.UNKNOWN);
        Due.refuses("to house 3", x, y -> y.build(0, 3, true), QuarrelWindows.UNKNOWN);
        Due.refuses("of house -1", x, y -> y.build(-1, 0, false), QuarrelWindows.UNKNOWN);
    }

    private static void tenants() {
        QuarrelWindows x = Due.square("h1,t2,h3;014105122201");
        x.morning();
        x.build(1, 2, true);
        Due.is("a tenant", x.tenant(1, 3), 1);
        Due.is("of another kind", x.house(1, 0), 3);
        Due.is("angry at nobody", x.house(1, 4), 0);
        Due.is("it fronts the river", x.house(1, 2), -1);
        Due.is("others may be angry at it", x.anger(0, 1), 5);
        Due.is("what was torn stays", x.house(1, 9), 1);
        Due.is("the view stays", x.house(1, 1), 2);
        Due.is("the wall stays", x.wall(1, 2), 1);
        Due.is("of the same kind", x.tenant(1, 3), 3);
        Due.is("0 is as it was", x.house(0, 0), 0);
        Due.is("a tenant of the last kind", x.tenant(2, 4), 0);
        Due.is("as a hot one", x.as(2, 1), 2);
        Due.refuses("of house 3", x, y -> y.tenant(3, 5), QuarrelWindows.UNKNOWN);
        Due.refuses("of house -1", x, y -> y.tenant(-1, 0), QuarrelWindows.UNKNOWN);
        Due.refuses("kind 5", x, y -> y.tenant(0, 5), QuarrelWindows.OUTSIDE);
        Due.refuses("kind -1", x, y -> y.tenant(0, -1), QuarrelWindows.OUTSIDE);
        x = Due.square("h1,h2,h3,h4,h5,t6;502511523534545054");
        Due.is("a tenant of the last of six", x.tenant(5, 2), 1);
        Due.is("angry at nobody", x.house(5, 4), 0);
        Due.is("who is angry at it", x.house(5, 3), 1);
        x = Due.square("h1,t2,h3;011121201");
        x.morning();
        x.tenant(0, 2);
        Due.is("what it cost stays", x.house(0, 10), 1);
    }

    private static void courts() {
        QuarrelWindows x = Due.square("h1,h2,h3,h4;012021122201304");
        Due.is("a court", x.court(), 3);
        Due.is("0 at 1", x.anger(0, 1), 0);
        Due.is("1 at 2", x.anger(1, 2), 0);
        Due.is("2 at 0", x.anger(2, 0), 0);
        Due.is("0 at 2, which it did not front", x.anger(0, 2), 1);
        Due.is("3, which was not in it", x.anger(3, 0), 4);
        Due.is("the window of 0 turns", x.house(0, 2), 2);
        Due.is("it is no peace", x.count(12), 0);
        Due.refuses("no ring", x, y -> y.court(), QuarrelWindows.STATE);
        x = Due.square("h1,h2,h3,h4;013122231304");
        Due.is("a court of four", x.court(), 4);
        Due.is("no angers", x.count(1), 0);
        x = Due.square("h1,h2,h3,h4;014121231311");
        Due.is("a court of a ring without 0", x.court(), 3);
        Due.is("0, which leads into it", x.anger(0, 1), 4);
        Due.is("all others", x.count(1), 1);
        x = Due.square("h1,h2,h3;013102");
        Due.refuses("two that stare", x, y -> y.court(), QuarrelWindows.STATE);
    }

    private static void courtOfTwoRings() {
        QuarrelWindows x = Due.square("h1,h2,h3,h4,h5,h6;121251511031341401");
        Due.is("rings", x.count(6), 2);
        Due.is("the one with the least house", x.court(), 3);
        Due.is("0 at 3", x.anger(0, 3), 0);
        Due.is("3 at 4", x.anger(3, 4), 0);
        Due.is("4 at 0", x.anger(4, 0), 0);
        Due.is("1 at 2", x.anger(1, 2), 1);
        Due.is("one is left", x.count(6), 1);
        Due.is("the other one", x.court(), 3);
        Due.is("5 at 1", x.anger(5, 1), 0);
        Due.is("none is left", x.court(), QuarrelWindows.STATE);
    }

    private static void anger(QuarrelWindows x, int a, int b, int due) {
        Due.is(a + " at " + b, x.anger(a, b), due);
    }

    private static void morningOfHouses() {
        QuarrelWindows x = Due.square("h1,h2,h3,h4;014102023");
        Due.is("a morning", x.morning(), 0);
        anger(x, 0, 1, 5);
        anger(x, 0, 2, 2);
        anger(x, 1, 0, 3);
        anger(x, 2, 0, 0);
        Due.is("mornings", x.count(9), 1);
        x = Due.square("h1,h2,h3;015026103");
        x.morning();
        anger(x, 0, 1, 5);
        anger(x, 0, 2, 6);
        anger(x, 1, 0, 3);
        x = Due.square("h1,h2,h3;015");
        x.morning();
        anger(x, 0, 1, 5);
        anger(x, 1, 0, 0);
        x = Due.square("h1,h2,h3;014022");
        x.build(0, 1, true);
        x.morning();
        anger(x, 0, 1, 3);
        anger(x, 0, 2, 2);
        Due.refuses("morning without a square", new QuarrelWindows(), y -> y.morning(), QuarrelWindows.STATE);
    }

    private static void morningOfHotOnes() {
        QuarrelWindows x = Due.square("t1,h2,h3;014025");
        x.morning();
        anger(x, 0, 1, 3);
        anger(x, 0, 2, 6);
        anger(x, 2, 0, 0);
        x = Due.square("t1,t2,h3;014102");
        x.morning();
        anger(x, 0, 1, 6);
        anger(x, 1, 0, 4);
        x = Due.square("t1,h2,h3;014025103");
        x.morning();
        anger(x, 0, 1, 4);
    }

    private static void morningOfFeuds() {
        QuarrelWindows x = Due.square("f1,h2,h3;014023");
        x.morning();
        anger(x, 0, 1, 5);
        anger(x, 0, 2, 2);
        x = Due.square("f1,h2,h3;014102023");
        x.morning();
        anger(x, 0, 1, 7);
        anger(x, 0, 2, 2);
        anger(x, 1, 0, 3);
        x = Due.square("f1,h2,h3;014023202");
        x.morning();
        anger(x, 0, 1, 5);
        anger(x, 0, 2, 3);
    }

    private static void morningOfMildOnes() {
        QuarrelWindows x = Due.square("m1,h2,h3;014023102");
        x.morning();
        anger(x, 0, 1, 2);
        anger(x, 0, 2, 1);
        anger(x, 1, 0, 3);
        x.morning();
        anger(x, 0, 1, 0);
        anger(x, 0, 2, 0);
        x = Due.square("m1,h2,h3;015026103");
        x.morning();
        anger(x, 0, 1, 3);
        anger(x, 0, 2, 4);
    }

    private static void morningOfShamOnes() {
        QuarrelWindows x = Due.square("s1,h2,h3;014023");
        Due.is("it turns to the other one", x.morning(), 1);
        anger(x, 0, 1, 3);
        anger(x, 0, 2, 3);
        Due.is("of like ones the least", x.house(0, 2), 1);
        x = Due.square("s1,h2,h3;012024102");
        Due.is("no window turns", x.morning(), 0);
        anger(x, 0, 1, 3);
        anger(x, 0, 2, 3);
    }

    private static void morningBounds() {
        QuarrelWindows x = Due.square("f1,m2,h3;019019012101021");
        x.morning();
        anger(x, 0, 1, 20);
        anger(x, 0, 2, 0);
        anger(x, 1, 0, 0);
        x = Due.square("h1,h2,h3;019019029029205");
        x.quarrel(0, 1, 2);
        x.quarrel(0, 2, 2);
        x.morning();
        Due.is("20, by 1 less and by 1 more: taken together first", x.anger(0, 2), 20);
        anger(x, 0, 1, 20);
        x = Due.square("h1,m2,h3;011");
        x.morning();
        Due.is("0, by 1 less and by 1 more: taken together first", x.anger(1, 0), 0);
        x = Due.square("h1,h2,h3;011023201");
        x.morning();
        Due.is("0 of a house", x.anger(0, 1), 0);
        anger(x, 0, 2, 4);
    }

    private static void morningTearsAndCosts() {
        QuarrelWindows x = Due.square("h1,h2,h3,h4,h5;011101231341421");
        int[] torn = {1, 1, 0, 0, 0};
        for (int morning = 1; morning <= 3; morning++) {
            Due.is("a morning", x.morning(), 0);
            for (int house = 0; house < 5; house++) {
                Due.is("torn of " + house, x.house(house, 9), morning * torn[house]);
                Due.is("cost of " + house, x.house(house, 10), morning * (1 - torn[house]));
            }
        }
        Due.is("all that was torn", x.count(13), 6);
        Due.is("all costs", x.count(14), 9);
        x.peace(0, 1);
        x.court();
        x.morning();
        Due.is("torn no more", x.count(13), 6);
        Due.is("no more costs", x.count(14), 9);
        x = Due.square("m1,m2,h3;012102");
        Due.is("both turn to the river", x.morning(), 2);
        Due.is("torn first, as they stared ahead of it", x.count(13), 2);
        x = Due.square("m1,m2,m3;012122202");
        Due.is("all turn to the river", x.morning(), 3);
        Due.is("it cost first, as they were in a ring ahead of it", x.count(14), 3);
    }

    private static void morningTurns() {
        QuarrelWindows x = Due.square("m1,h2,h3;014102");
        Due.is("first morning", x.morning(), 0);
        Due.is("second morning", x.morning(), 1);
        Due.is("third morning", x.morning(), 0);
        Due.is("mornings", x.count(9), 3);
        Due.is("turned", x.count(10), 1);
        x.quarrel(0, 2, 9);
        x.peace(0, 2);
        x.build(1, 0, true);
        Due.is("only what turns on mornings", x.count(10), 1);
        x = Due.square("m1,m2,m3;021124205");
        Due.is("turns of all", x.morning(), 1);
        Due.is("and again", x.morning(), 1);
        Due.is("and again", x.morning(), 1);
        Due.is("turned", x.count(10), 3);
    }
}
