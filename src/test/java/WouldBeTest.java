/** Promises 17 to 21: settles, calm, arbiter, grudge, walls. */
public final class WouldBeTest {
    public static void main(String[] args) {
        settles();
        settlesLate();
        calms();
        calmOfEachPair();
        calmRefusals();
        calmTwentyTimes();
        arbiters();
        arbiterRefusals();
        arbiterTwelveTimes();
        grudges();
        grudgeRefusals();
        walls();
        wallRefusals();
        Due.end();
    }

    private static void settles() {
        QuarrelWindows x = Due.square("h1,h2,h3;012");
        Due.is("settled now", x.settles(0), 0);
        Due.is("0 fronts 1", x.settles(10), 1);
        Due.is("1 fronts the river", x.settles(11), -1);
        Due.is("there is no house 3", x.settles(13), -1);
        x = Due.square("m1,h2,h3,h4;019124231");
        Due.is("behind five mornings", x.settles(0), 5);
        Due.is("0 fronts the river then", x.settles(10), -1);
        Due.is("1 fronts 2 then", x.settles(11), 2);
        Due.is("2 fronts 3 then", x.settles(12), 3);
        Due.is("3 fronts the river then", x.settles(13), -1);
        Due.is("no morning passed", x.count(9), 0);
        Due.is("0 fronts 1 now", x.house(0, 2), 1);
        Due.mornings(x, 2);
        Due.is("behind three more", x.settles(0), 3);
        Due.refuses("settles(1)", x, y -> y.settles(1), QuarrelWindows.OUTSIDE);
        Due.refuses("settles(9)", x, y -> y.settles(9), QuarrelWindows.OUTSIDE);
        Due.refuses("settles(16)", x, y -> y.settles(16), QuarrelWindows.OUTSIDE);
        Due.refuses("settles(-1)", x, y -> y.settles(-1), QuarrelWindows.OUTSIDE);
        x = new QuarrelWindows();
        Due.refuses("no square", x, y -> y.settles(0), QuarrelWindows.STATE);
        Due.refuses("no square, house 5", x, y -> y.settles(15), QuarrelWindows.STATE);
        Due.refuses("no square, outside", x, y -> y.settles(16), QuarrelWindows.OUTSIDE);
    }

    private static void settlesLate() {
        // The sham one fronts 2 until its anger at 1, by 1 less each morning, is no greater.
        QuarrelWindows x = Due.square("s0,h0,h0;019019012021");
        Due.is("on the nineteenth morning", x.settles(0), 19);
        Due.is("1 is the least of like ones", x.settles(10), 1);
        x = Due.square("s3,t8,h4,f5;307022037203101");
        x.quarrel(0, 1, 7);
        x.quarrel(0, 2, 4);
        Due.is("as late as can be told", x.settles(0), 40);
        int front = x.settles(10);
        Due.mornings(x, 40);
        Due.is("40 mornings later", x.settles(0), 0);
        Due.is("0 fronts what was told", x.house(0, 2), front);
        x = Due.square("s0,s4,f1,f8;037124");
        int[] more = {138, 16, 311, 106};
        for (int quarrel : more) {
            x.quarrel(quarrel / 100, quarrel / 10 % 10, quarrel % 10);
        }
        Due.is("later than that", x.settles(0), -1);
        Due.is("house 0 then", x.settles(10), -1);
        Due.is("house 2 then", x.settles(12), -1);
        x = Due.square("s0,f9,s3,f8;028206011239101328");
        Due.is("behind 41 mornings", x.settles(0), -1);
        x.morning();
        Due.is("a morning later", x.settles(0), 40);
        x = Due.square("s4,s5,s7;206101014215028125");
        for (int times = 0; times < 4; times++) {
            Due.is("it never settles", x.settles(0), -1);
            Due.is("nowhere", x.settles(10), -1);
            Due.mornings(x, 41);
        }
    }

    private static void calm(QuarrelWindows x, int houses, int mornings, int... due) {
        String call = "calm(" + houses + ", " + mornings + ") ";
        Due.is(call + "how few", x.calm(houses, mornings, 0), due[0]);
        for (int at = 0; at < 3; at++) {
            Due.is(call + "pair " + at, x.calm(houses, mornings, 10 + at), at + 1 < due.length ? due[at + 1] : -1);
        }
    }

    private static void calms() {
        QuarrelWindows x = Due.square("h1,h2,h3,h4;012101232");
        long before = x.digest();
        calm(x, 8, 0, 0);
        calm(x, 1, 0, 1, 1);
        calm(x, 3, 5, 1, 1);
        calm(x, 5, 0, 2, 1, 23);
        calm(x, 15, 3, 2, 1, 23);
        Due.is("times", x.count(18), 20);
        Due.is("peaces", x.count(12), 0);
        Due.is("angers", x.count(2), 5);
        Due.is("the digest tells the times alone", x.digest() - before, 20 * 31);
        x = Due.square("m1,h2,h3,h4,h5;014023231341401");
        calm(x, 1, 0, 2, 1, 2);
        calm(x, 1, 1, 2, 1, 2);
        calm(x, 1, 2, 0);
        calm(x, 29, 2, 3, 4, 23, 34);
        calm(x, 31, 5, 3, 4, 23, 34);
        x = Due.square("h1,h2,h3,h4,h5;011021031041");
        calm(x, 1, 5, -1);
        x.build(0, 4, true);
        calm(x, 1, 0, 3, 1, 2, 3);
        x.build(0, 2, true);
        calm(x, 17, 0, 2, 1, 3);
    }

    private static void calmOfEachPair() {
        QuarrelWindows x = new QuarrelWindows();
        for (int a = 0; a < 6; a++) {
            for (int b = a + 1; b < 6; b++) {
                Due.type(x, "h1,h2,h3,h4,h5,h6;" + b + a + "3");
                x.square();
                Due.is("calm by pair", x.calm(63, 2, 10), 10 * a + b);
                x.quarrel(a, b, 1);
                if (b < 4) {
                    Due.is("arbiter by pair", x.arbiter(1, 10), 10 * a + b);
                }
                Due.is("wall between a pair", x.walls(1, 0), 10 * a + b);
                Due.is("all at the river then", x.walls(1, 1), 6);
            }
        }
    }

    private static void calmRefusals() {
        QuarrelWindows x = Due.square("h1,h2,h3;012");
        Due.refuses("no houses", x, y -> y.calm(0, 0, 0), QuarrelWindows.OUTSIDE);
        Due.refuses("house 3", x, y -> y.calm(8, 0, 0), QuarrelWindows.OUTSIDE);
        Due.refuses("house 3, too", x, y -> y.calm(9, 0, 0), QuarrelWindows.OUTSIDE);
        Due.refuses("houses -1", x, y -> y.calm(-1, 0, 0), QuarrelWindows.OUTSIDE);
        Due.refuses("houses MIN", x, y -> y.calm(Integer.MIN_VALUE, 0, 0), QuarrelWindows.OUTSIDE);
        Due.refuses("mornings -1", x, y -> y.calm(1, -1, 0), QuarrelWindows.OUTSIDE);
        Due.refuses("mornings 6", x, y -> y.calm(1, 6, 0), QuarrelWindows.OUTSIDE);
        Due.refuses("what 1", x, y -> y.calm(1, 0, 1), QuarrelWindows.OUTSIDE);
        Due.refuses("what 9", x, y -> y.calm(1, 0, 9), QuarrelWindows.OUTSIDE);
        Due.refuses("what 13", x, y -> y.calm(1, 0, 13), QuarrelWindows.OUTSIDE);
        Due.refuses("what -1", x, y -> y.calm(1, 0, -1), QuarrelWindows.OUTSIDE);
        Due.is("times", x.count(18), 0);
        Due.refuses("no square", new QuarrelWindows(), y -> y.calm(1, 0, 0), QuarrelWindows.OUTSIDE);
    }

    private static void calmTwentyTimes() {
        QuarrelWindows x = Due.square("h1,h2,h3,h4,h5;011021031041");
        x.image();
        for (int time = 1; time <= 20; time++) {
            x.calm(0, 0, 0);
            Due.is("none, time " + time, x.calm(1, 0, 10), -1);
            Due.is("times", x.count(18), time);
        }
        Due.refuses("once more", x, y -> y.calm(1, 0, 0), QuarrelWindows.STATE);
        Due.refuses("once more, outside", x, y -> y.calm(1, 6, 0), QuarrelWindows.OUTSIDE);
        Due.refuses("once more, outside", x, y -> y.calm(1, 0, 2), QuarrelWindows.OUTSIDE);
        x.restore();
        Due.is("times count on behind restore", x.count(18), 20);
        Due.is("so it is refused", x.calm(1, 0, 0), QuarrelWindows.STATE);
        Due.type(x, "h1,h2,h3;");
        x.square();
        Due.is("times count on in another square", x.count(18), 20);
        Due.is("so it is refused", x.calm(1, 0, 0), QuarrelWindows.STATE);
        Due.is("what is outside there", x.calm(8, 0, 0), QuarrelWindows.OUTSIDE);
    }

    private static void arbiter(String text, int mornings, int... due) {
        QuarrelWindows x = Due.square(text);
        long before = x.digest();
        String call = text + " arbiter(" + mornings + ") ";
        Due.is(call + "how few", x.arbiter(mornings, 0), due[0]);
        for (int at = 0; at < 3; at++) {
            Due.is(call + "pair " + at, x.arbiter(mornings, 10 + at), at + 1 < due.length ? due[at + 1] : -1);
        }
        Due.is(call + "times", x.count(19), 4);
        Due.is(call + "the digest tells the times alone", x.digest() - before, 4);
    }

    private static void arbiters() {
        arbiter("h1,h2,h3;011", 1, 0);
        arbiter("h1,h2,h3;011101", 1, 0, 1);
        arbiter("h1,h2,h3;011101", 2, 0, -1, 1);
        arbiter("h1,h2,h3;011101", 3, 0, -1, -1, 1);
        arbiter("m1,h2,h3;013101", 1, 0, 1);
        arbiter("m1,h2,h3;013101", 2, 0);
        arbiter("h1,h2,h3,h4;011101231321", 1, 1, 1);
        arbiter("h1,h2,h3,h4;011101231321", 2, 0, 1, 23);
        arbiter("h1,h2,h3,h4;011101231321", 3, 0, -1, 1, 23);
        arbiter("h1,h2,h3;012122202", 1, 0, 1);
        arbiter("h1,h2,h3;122012202", 1, 0, 1);
        arbiter("h1,h2,h3,h4,h5;012122202341431", 1, 1, 1);
        arbiter("h1,h2,h3,h4,h5;012122202341431", 3, 0, -1, 1, 34);
        // Behind the peace of 0 and 1 those two turn to 2 and 3, each of which fronts it.
        arbiter("h1,h2,h3,h4;015105021132201311", 1, 1);
        arbiter("h1,h2,h3,h4,h5,h6;011101231321451541", 1, 2, 1);
        arbiter("h1,h2,h3,h4,h5,h6;011101231321451541", 3, 0, 1, 23, 45);
        arbiterOfLatePairs();
    }

    private static void arbiterOfLatePairs() {
        QuarrelWindows x = new QuarrelWindows();
        for (int a = 2; a < 6; a++) {
            for (int b = Math.max(a + 1, 4); b < 6; b++) {
                Due.type(x, "h1,h2,h3,h4,h5,h6;" + a + b + "1" + b + a + "3");
                x.square();
                Due.is("arbiter by a late pair", x.arbiter(1, 10), 10 * a + b);
            }
        }
    }

    private static void arbiterRefusals() {
        QuarrelWindows x = Due.square("h1,h2,h3;012");
        Due.refuses("mornings 0", x, y -> y.arbiter(0, 0), QuarrelWindows.OUTSIDE);
        Due.refuses("mornings 4", x, y -> y.arbiter(4, 0), QuarrelWindows.OUTSIDE);
        Due.refuses("mornings -1", x, y -> y.arbiter(-1, 0), QuarrelWindows.OUTSIDE);
        Due.refuses("what 1", x, y -> y.arbiter(1, 1), QuarrelWindows.OUTSIDE);
        Due.refuses("what 9", x, y -> y.arbiter(1, 9), QuarrelWindows.OUTSIDE);
        Due.refuses("what 13", x, y -> y.arbiter(1, 13), QuarrelWindows.OUTSIDE);
        Due.refuses("what -1", x, y -> y.arbiter(1, -1), QuarrelWindows.OUTSIDE);
        Due.is("a pair behind the mornings", x.arbiter(1, 12), -1);
        x = new QuarrelWindows();
        Due.refuses("no square", x, y -> y.arbiter(1, 0), QuarrelWindows.STATE);
        Due.refuses("no square, outside", x, y -> y.arbiter(0, 0), QuarrelWindows.OUTSIDE);
        Due.is("times", x.count(19), 0);
    }

    private static void arbiterTwelveTimes() {
        QuarrelWindows x = Due.square("h1,h2,h3;011101");
        x.image();
        for (int time = 1; time <= 12; time++) {
            x.arbiter(0, 0);
            Due.is("time " + time, x.arbiter(1, 10), 1);
            Due.is("times", x.count(19), time);
        }
        Due.refuses("once more", x, y -> y.arbiter(1, 0), QuarrelWindows.STATE);
        Due.refuses("once more, outside", x, y -> y.arbiter(4, 0), QuarrelWindows.OUTSIDE);
        x.restore();
        Due.is("refused behind restore", x.arbiter(1, 0), QuarrelWindows.STATE);
        Due.type(x, "h1,h2,h3;");
        x.square();
        Due.is("times count on in another square", x.count(19), 12);
        Due.is("so it is refused", x.arbiter(3, 0), QuarrelWindows.STATE);
    }

    private static void grudges() {
        QuarrelWindows x = Due.square("h1,h2,h3;013");
        long before = x.digest();
        Due.is("more than the other", x.grudge(0, 2, 0), 4);
        Due.is("it does front it", x.grudge(0, 1, 0), 1);
        Due.is("one angry at none", x.grudge(2, 0, 5), 1);
        Due.is("nothing was done", x.digest(), before);
        Due.is("no quarrel", x.count(11), 0);
        x = Due.square("h1,h2,h3;023");
        Due.is("of like ones the least", x.grudge(0, 1, 0), 3);
        x = Due.square("m1,h2,h3;");
        Due.is("mild, three mornings", x.grudge(0, 1, 3), 7);
        Due.is("mild, four mornings", x.grudge(0, 1, 4), 9);
        Due.is("mild, five mornings: none", x.grudge(0, 1, 5), -1);
        x = Due.square("s1,h2,h3;013");
        Due.is("a sham one fronts the least", x.grudge(0, 2, 0), 1);
        x = Due.square("s1,h2,h3;013023");
        Due.is("a sham one: none", x.grudge(0, 1, 0), -1);
        // By 1 it fronts 2, then 1 (3 and 3), then 2 (3 and 2); by 2 it fronts 2, 2 (4 and 3), then 1 (3 and 3).
        Due.is("a sham one, in a morning", x.grudge(0, 1, 1), 1);
        Due.is("a sham one, in two mornings", x.grudge(0, 1, 2), 2);
        x = Due.square("h1,h2,h3;019");
        Due.is("9 is too little for more than 9", x.grudge(0, 2, 0), -1);
        x.build(0, 2, true);
        Due.is("a wall between", x.grudge(0, 2, 0), -1);
        x.peace(0, 1);
        Due.is("a wall between, nobody else", x.grudge(0, 2, 0), -1);
    }

    private static void grudgeRefusals() {
        QuarrelWindows x = Due.square("h1,h2,h3;012");
        Due.refuses("with itself", x, y -> y.grudge(1, 1, 6), QuarrelWindows.UNKNOWN);
        Due.refuses("of house 3", x, y -> y.grudge(3, 0, 6), QuarrelWindows.UNKNOWN);
        Due.refuses("with house 3", x, y -> y.grudge(0, 3, 0), QuarrelWindows.UNKNOWN);
        Due.refuses("of house -1", x, y -> y.grudge(-1, 0, 0), QuarrelWindows.UNKNOWN);
        Due.refuses("mornings 6", x, y -> y.grudge(0, 1, 6), QuarrelWindows.OUTSIDE);
        Due.refuses("mornings -1", x, y -> y.grudge(0, 1, -1), QuarrelWindows.OUTSIDE);
    }

    private static void wall(QuarrelWindows x, int mornings, int pair, int atRiver) {
        Due.is("walls(" + mornings + ", 0)", x.walls(mornings, 0), pair);
        Due.is("walls(" + mornings + ", 1)", x.walls(mornings, 1), atRiver);
    }

    private static void walls() {
        QuarrelWindows x = Due.square("h1,h2,h3;012101023");
        long before = x.digest();
        wall(x, 0, 1, 2);
        wall(x, 5, 1, 2);
        Due.is("nothing was done", x.digest(), before);
        Due.is("no wall was built", x.count(8), 0);
        x = Due.square("h1,h2,h3,h4;232012");
        wall(x, 0, 1, 3);
        x.build(0, 1, true);
        wall(x, 0, 23, 4);
        x.build(2, 3, true);
        wall(x, 0, -1, -1);
        x = Due.square("h1,h2,h3,h4;012233323");
        wall(x, 0, 23, 3);
        x = Due.square("h1,h2,h3;");
        wall(x, 0, -1, -1);
        x = Due.square("h1,h2,h3;012023");
        wall(x, 0, -1, -1);
        // Behind two mornings the lesser anger of a mild one is gone, behind three the greater one, too.
        x = Due.square("m1,h2,h3;015023");
        wall(x, 0, -1, -1);
        wall(x, 2, 1, 3);
        wall(x, 3, -1, -1);
        x = Due.square("h1,h2,h3;011101");
        x.build(0, 1, true);
        x.build(0, 2, true);
        x.build(1, 2, true);
        wall(x, 1, -1, -1);
    }

    private static void wallRefusals() {
        QuarrelWindows x = Due.square("h1,h2,h3;012");
        Due.refuses("mornings 6", x, y -> y.walls(6, 0), QuarrelWindows.OUTSIDE);
        Due.refuses("mornings -1", x, y -> y.walls(-1, 0), QuarrelWindows.OUTSIDE);
        Due.refuses("what 2", x, y -> y.walls(0, 2), QuarrelWindows.OUTSIDE);
        Due.refuses("what -1", x, y -> y.walls(0, -1), QuarrelWindows.OUTSIDE);
        x = new QuarrelWindows();
        Due.refuses("no square", x, y -> y.walls(0, 0), QuarrelWindows.STATE);
        Due.refuses("no square, outside", x, y -> y.walls(0, 2), QuarrelWindows.OUTSIDE);
    }
}
