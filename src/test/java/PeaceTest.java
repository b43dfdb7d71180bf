/** Promises 18 and 19: calm, arbiter. */
public final class PeaceTest {
    private static final String FOUR_AT = "h1,h2,h3,h4,h5;011021031041";

    public static void main(String[] args) {
        promise18HowFew();
        promise18Behind();
        promise18Pairs();
        promise18EachPair();
        promise18Houses();
        promise18Outside();
        promise18Twenty();
        promise18OutsideFirst();
        promise19HowFew();
        promise19FirstByNumbers();
        promise19EachPair();
        promise19Outside();
        promise19NoSquare();
        promise19Twelve();
        promise19OutsideFirst();
        Due.end();
    }

    private static void calm(QuarrelWindows x, int houses, int mornings, int... due) {
        String call = "calm(" + houses + ", " + mornings + ") ";
        Due.is(call + "how few", x.calm(houses, mornings, 0), due[0]);
        for (int at = 0; at < 3; at++) {
            Due.is(call + "pair " + at, x.calm(houses, mornings, 10 + at), at + 1 < due.length ? due[at + 1] : -1);
        }
    }

    private static void promise18HowFew() {
        Due.promise(18, "by how few PEACES, 0 to 3; none");
        QuarrelWindows x = Due.square("h1,h2,h3,h4;012101232");
        long before = x.digest();
        calm(x, 8, 0, 0);
        calm(x, 1, 0, 1, 1);
        calm(x, 3, 5, 1, 1);
        calm(x, 5, 0, 2, 1, 23);
        calm(x, 15, 3, 2, 1, 23);
        Due.is("times", x.count(18), 20);
        Due.is("peaces", x.count(12), 0);
        Due.is("angers", x.count(2), 5);
        Due.is("the digest tells the times alone", x.digest() - before, 20 * 31);
        x = Due.square(FOUR_AT);
        calm(x, 1, 5, -1);
        x.build(0, 4, true);
        calm(x, 1, 0, 3, 1, 2, 3);
        x.build(0, 2, true);
        calm(x, 17, 0, 2, 1, 3);
        x = Due.square("h1,h2,h3;");
        calm(x, 7, 0, 0);
        calm(x, 7, 5, 0);
        x = Due.square("h1,h2,h3,h4,h5,h6;011101231321451541");
        calm(x, 63, 0, 3, 1, 23, 45);
        x.quarrel(3, 5, 1);
        calm(x, 63, 0, -1);
        calm(x, 55, 0, 3, 1, 23, 45);
    }

    private static void promise18Behind() {
        Due.promise(18, "all these FRONT the RIVER behind so many MORNINGS, 0 to 5");
        QuarrelWindows x = Due.square("m1,h2,h3,h4,h5;014023231341401");
        calm(x, 1, 0, 2, 1, 2);
        calm(x, 1, 1, 2, 1, 2);
        calm(x, 1, 2, 0);
        calm(x, 29, 2, 3, 4, 23, 34);
        calm(x, 31, 5, 3, 4, 23, 34);
        x = Due.square("m1,h2,h3;019011");
        Due.is("a mild one's 10 is gone behind 5", x.calm(1, 5, 0), 0);
        Due.is("not behind 4", x.calm(1, 4, 0), 1);
        x.quarrel(0, 1, 1);
        Due.is("its 11 is not gone behind 5", x.calm(1, 5, 0), 1);
        Due.is("by that peace", x.calm(1, 5, 10), 1);
        Due.is("now, it fronts 1", x.calm(1, 0, 0), 1);
        Due.is("now, 1 is at the river", x.calm(2, 0, 0), 0);
    }

    private static void promise18Pairs() {
        Due.promise(18, "each row with the least PAIR ahead; NONE: there is none such");
        QuarrelWindows x = Due.square("h1,h2,h3,h4,h5,h6;545344121");
        calm(x, 32, 0, 1, 45);
        calm(x, 56, 0, 2, 34, 45);
        calm(x, 58, 0, 3, 12, 34, 45);
        calm(x, 4, 0, 0);
    }

    private static void promise18EachPair() {
        Due.promise(18, "a PAIR: 10 times the lesser HOUSE, and the greater one");
        QuarrelWindows x = new QuarrelWindows();
        for (int a = 0; a < 6; a++) {
            for (int b = a + 1; b < 6; b++) {
                Due.type(x, "h1,h2,h3,h4,h5,h6;" + b + a + "3");
                x.square();
                Due.is("pair", x.calm(63, 2, 10), 10 * a + b);
            }
        }
    }

    private static QuarrelWindows peaceful(int houses) {
        return Due.square("h1,h2,h3,h4,h5,h6".substring(0, 3 * houses - 1) + ";011");
    }

    private static void promise18Houses() {
        Due.promise(18, "OUTSIDE: houses (bits of those there are, one at least)");
        for (int houses = 3; houses <= 6; houses++) {
            int many = houses;
            QuarrelWindows x = peaceful(many);
            Due.is("the first alone", x.calm(1, 0, 0), 1);
            Due.is("the last alone", x.calm(1 << many - 1, 0, 0), 0);
            Due.is("all", x.calm((1 << many) - 1, 0, 0), 1);
            int[] wrong = {0, 1 << many, (1 << many) + 1, -1, Integer.MIN_VALUE, Integer.MIN_VALUE + 1,
                Integer.MAX_VALUE};
            for (int bits : wrong) {
                Due.refuses("bits " + bits + " of " + many, () -> peaceful(many), y -> y.calm(bits, 0, 0),
                    QuarrelWindows.OUTSIDE);
            }
        }
        Due.promise(18, "so always without a SQUARE");
        for (int bits = 0; bits < 64; bits++) {
            int houses = bits;
            Refusals.refusesNone("bits " + bits, y -> y.calm(houses, 0, 0), QuarrelWindows.OUTSIDE);
        }
        Refusals.refusesNone("bits -1", y -> y.calm(-1, 0, 0), QuarrelWindows.OUTSIDE);
        Due.refuses("with a page", () -> Due.page("h1,h2,h3;"), y -> y.calm(1, 0, 0), QuarrelWindows.OUTSIDE);
    }

    private static void promise18Outside() {
        Due.promise(18, "OUTSIDE: mornings (0 to 5)");
        Due.is("0", Refusals.three().calm(4, 0, 0), 1);
        Due.is("5", Refusals.three().calm(4, 5, 0), 1);
        Refusals.outside("calm", (y, mornings) -> y.calm(1, mornings, 0), -1, 6);
        Due.promise(18, "OUTSIDE: what (0, 10 to 12)");
        Due.is("12", Refusals.three().calm(4, 0, 12), -1);
        Refusals.outside("calm", (y, what) -> y.calm(1, 0, what), 1, 2, 9, 13, -1, -10);
    }

    private static void promise18Twenty() {
        Due.promise(18, "STATE: calm() was done 20 times ever (refusals do not count, all else does)");
        QuarrelWindows x = Due.square(FOUR_AT);
        x.image();
        int[] whats = {0, 10, 11, 12};
        for (int time = 1; time <= 20; time++) {
            x.calm(0, 0, 0);
            x.calm(1, 6, 0);
            x.calm(1, 0, 13);
            Due.is("times ahead of " + time, x.count(18), time - 1);
            Due.is("none, time " + time, x.calm(1, 0, whats[time % 4]), -1);
            Due.is("times", x.count(18), time);
        }
        Due.refusesNow("the 21st", x, y -> y.calm(1, 0, 0), QuarrelWindows.STATE);
        Due.refusesNow("the 22nd", x, y -> y.calm(31, 5, 12), QuarrelWindows.STATE);
        x.restore();
        Due.is("times behind restore", x.count(18), 20);
        Due.is("so it is refused", x.calm(1, 0, 0), QuarrelWindows.STATE);
        Due.type(x, "h1,h2,h3;");
        x.square();
        Due.is("times in another square", x.count(18), 20);
        Due.is("so it is refused", x.calm(1, 0, 0), QuarrelWindows.STATE);
        Due.is("another object", Due.square("h1,h2,h3;").calm(1, 0, 0), 0);
        Due.is("arbiter() is not done by it", x.arbiter(1, 0), 0);
    }

    private static QuarrelWindows calmedOut() {
        QuarrelWindows x = Refusals.three();
        for (int time = 0; time < 20; time++) {
            x.calm(1, 0, 0);
        }
        return x;
    }

    private static void promise18OutsideFirst() {
        Due.promise(18, "STATE: calm() was done 20 times ever");
        Due.refuses("once more", PeaceTest::calmedOut, y -> y.calm(1, 0, 0), QuarrelWindows.STATE);
        Due.promise(18, "OUTSIDE ahead of STATE");
        Due.refuses("no houses", PeaceTest::calmedOut, y -> y.calm(0, 0, 0), QuarrelWindows.OUTSIDE);
        Due.refuses("house 3", PeaceTest::calmedOut, y -> y.calm(8, 0, 0), QuarrelWindows.OUTSIDE);
        Due.refuses("mornings 6", PeaceTest::calmedOut, y -> y.calm(1, 6, 0), QuarrelWindows.OUTSIDE);
        Due.refuses("mornings -1", PeaceTest::calmedOut, y -> y.calm(1, -1, 0), QuarrelWindows.OUTSIDE);
        Due.refuses("what 1", PeaceTest::calmedOut, y -> y.calm(1, 0, 1), QuarrelWindows.OUTSIDE);
        Due.refuses("what 13", PeaceTest::calmedOut, y -> y.calm(1, 0, 13), QuarrelWindows.OUTSIDE);
    }

    private static void arbiter(String text, int mornings, int... due) {
        QuarrelWindows x = Due.square(text);
        long before = x.digest();
        String call = text + " arbiter(" + mornings + ") ";
        Due.is(call + "how few", x.arbiter(mornings, 0), due[0]);
        for (int at = 0; at < 3; at++) {
            Due.is(call + "pair " + at, x.arbiter(mornings, 10 + at), at + 1 < due.length ? due[at + 1] : -1);
        }
        Due.is(call + "times", x.count(19), 4);
        Due.is(call + "the digest tells the times alone", x.digest() - before, 4);
    }

    private static void promise19HowFew() {
        Due.promise(19, "fewest STARES (each two once) and RINGS together: how few");
        arbiter("h1,h2,h3;", 1, 0);
        arbiter("h1,h2,h3;011", 3, 0);
        arbiter("h1,h2,h3;011101", 1, 0, 1);
        arbiter("m1,h2,h3;013101", 1, 0, 1);
        arbiter("m1,h2,h3;013101", 2, 0);
        arbiter("h1,h2,h3,h4;011101231321", 1, 1, 1);
        arbiter("h1,h2,h3,h4;011101231321", 2, 0, 1, 23);
        arbiter("h1,h2,h3;012122202", 1, 0, 1);
        arbiter("h1,h2,h3,h4,h5;012122202341431", 1, 1, 1);
        // Behind the peace of 0 and 1 those two turn to 2 and 3, each of which fronts it.
        arbiter("h1,h2,h3,h4;015105021132201311", 1, 1);
        arbiter("h1,h2,h3,h4,h5,h6;011101231321451541", 1, 2, 1);
        arbiter("h1,h2,h3,h4,h5,h6;011101231321451541", 2, 1, 1, 23);
        arbiter("h1,h2,h3,h4,h5,h6;011101231321451541", 3, 0, 1, 23, 45);
        arbiter("h1,h2,h3,h4,h5,h6;011121201341451531", 1, 1, 1);
        arbiter("h1,h2,h3,h4,h5,h6;011121201341451531", 2, 0, 1, 34);
    }

    private static void promise19FirstByNumbers() {
        Due.promise(19, "of like ones the first by numbers: none ahead of all PAIRS; the first MORNING first");
        arbiter("h1,h2,h3;011101", 2, 0, -1, 1);
        arbiter("h1,h2,h3;011101", 3, 0, -1, -1, 1);
        arbiter("h1,h2,h3,h4;011101231321", 3, 0, -1, 1, 23);
        arbiter("h1,h2,h3;122012202", 1, 0, 1);
        arbiter("h1,h2,h3,h4,h5;012122202341431", 2, 0, 1, 34);
        arbiter("h1,h2,h3,h4,h5;012122202341431", 3, 0, -1, 1, 34);
    }

    private static void promise19EachPair() {
        Due.promise(19, "the PAIR ahead of the so-manieth MORNING");
        QuarrelWindows x = new QuarrelWindows();
        for (int a = 0; a < 6; a++) {
            for (int b = a + 1; b < 6; b++) {
                if (x.count(19) == 12) {
                    x = new QuarrelWindows();
                }
                Due.type(x, "h1,h2,h3,h4,h5,h6;" + a + b + "1" + b + a + "3");
                x.square();
                Due.is("pair", x.arbiter(1, 10), 10 * a + b);
            }
        }
        Due.promise(19, "NONE: none, where there is no so-manieth MORNING, too");
        x = Due.square("h1,h2,h3;011101");
        Due.is("the second of one", x.arbiter(1, 11), -1);
        Due.is("the third of one", x.arbiter(1, 12), -1);
        Due.is("the third of two", x.arbiter(2, 12), -1);
        Due.is("the third of three", x.arbiter(3, 12), 1);
    }

    private static void promise19Outside() {
        Due.promise(19, "OUTSIDE: mornings (1 to 3)");
        Due.is("1", Refusals.three().arbiter(1, 0), 0);
        Due.is("3", Refusals.three().arbiter(3, 0), 0);
        Refusals.outside("arbiter", (y, mornings) -> y.arbiter(mornings, 0), 0, 4, -1, 5);
        Due.promise(19, "OUTSIDE: what (0, 10 to 12)");
        Refusals.outside("arbiter", (y, what) -> y.arbiter(1, what), 1, 2, 9, 13, -1, -10);
    }

    private static void promise19NoSquare() {
        Due.promise(19, "STATE: no SQUARE");
        Refusals.refusesNone("arbiter", y -> y.arbiter(1, 0), QuarrelWindows.STATE);
        Refusals.refusesNone("arbiter for three", y -> y.arbiter(3, 12), QuarrelWindows.STATE);
        Due.promise(19, "OUTSIDE ahead of STATE: no SQUARE");
        Refusals.refusesNone("mornings 0", y -> y.arbiter(0, 0), QuarrelWindows.OUTSIDE);
        Refusals.refusesNone("mornings 4", y -> y.arbiter(4, 0), QuarrelWindows.OUTSIDE);
        Refusals.refusesNone("what 1", y -> y.arbiter(1, 1), QuarrelWindows.OUTSIDE);
        Refusals.refusesNone("what 13", y -> y.arbiter(1, 13), QuarrelWindows.OUTSIDE);
    }

    private static void promise19Twelve() {
        Due.promise(19, "STATE: arbiter() was done 12 times ever (refusals do not count, all else does)");
        QuarrelWindows x = new QuarrelWindows();
        for (int time = 0; time < 13; time++) {
            x.arbiter(1, 0);
        }
        Due.is("times without a square", x.count(19), 0);
        Due.type(x, "h1,h2,h3;011101");
        x.square();
        x.image();
        int[] whats = {10, 0, 11, 12};
        int[] due = {1, 0, -1, -1};
        for (int time = 1; time <= 12; time++) {
            x.arbiter(0, 0);
            x.arbiter(1, 13);
            Due.is("times ahead of " + time, x.count(19), time - 1);
            Due.is("time " + time, x.arbiter(1, whats[time % 4]), due[time % 4]);
            Due.is("times", x.count(19), time);
        }
        Due.refusesNow("the 13th", x, y -> y.arbiter(1, 0), QuarrelWindows.STATE);
        Due.refusesNow("the 14th", x, y -> y.arbiter(3, 12), QuarrelWindows.STATE);
        x.restore();
        Due.is("refused behind restore", x.arbiter(1, 0), QuarrelWindows.STATE);
        Due.type(x, "h1,h2,h3;");
        x.square();
        Due.is("times in another square", x.count(19), 12);
        Due.is("so it is refused", x.arbiter(3, 0), QuarrelWindows.STATE);
        Due.is("calm() is not done by it", x.calm(1, 0, 0), 0);
    }

    private static QuarrelWindows arbitedOut() {
        QuarrelWindows x = Refusals.three();
        for (int time = 0; time < 12; time++) {
            x.arbiter(1, 0);
        }
        return x;
    }

    private static void promise19OutsideFirst() {
        Due.promise(19, "STATE: arbiter() was done 12 times ever");
        Due.refuses("once more", PeaceTest::arbitedOut, y -> y.arbiter(1, 0), QuarrelWindows.STATE);
        Due.promise(19, "OUTSIDE ahead of STATE");
        Due.refuses("mornings 0", PeaceTest::arbitedOut, y -> y.arbiter(0, 0), QuarrelWindows.OUTSIDE);
        Due.refuses("mornings 4", PeaceTest::arbitedOut, y -> y.arbiter(4, 0), QuarrelWindows.OUTSIDE);
        Due.refuses("what 9", PeaceTest::arbitedOut, y -> y.arbiter(1, 9), QuarrelWindows.OUTSIDE);
        Due.refuses("what 13", PeaceTest::arbitedOut, y -> y.arbiter(1, 13), QuarrelWindows.OUTSIDE);
    }
}
