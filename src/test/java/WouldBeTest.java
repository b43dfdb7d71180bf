/** Promises 17, 20 and 21: settles, grudge, walls. */
public final class WouldBeTest {
    public static void main(String[] args) {
        promise17Settles();
        promise17EachHouse();
        promise17TwentyMornings();
        promise17FortyAtMost();
        promise17Never();
        promise17Refused();
        promise20Least();
        promise20OneToNine();
        promise20Behind();
        promise20TwentyAtMost();
        promise20Refused();
        promise21Walls();
        promise21LeastPair();
        promise21None();
        promise21Behind();
        promise21EachPair();
        promise21Refused();
        Due.end();
    }

    private static void promise17Settles() {
        Due.promise(17, "0 behind how many MORNINGS, the fewest, 10 to 15 which one each FRONTS then");
        QuarrelWindows x = Due.square("h1,h2,h3;012");
        Due.is("settled now", x.settles(0), 0);
        Due.is("0 fronts 1", x.settles(10), 1);
        Due.is("1 fronts the river", x.settles(11), -1);
        Due.is("none is angry", Due.square("h1,h2,h3;").settles(0), 0);
        Due.is("behind one", Due.square("m1,h2,h3;011").settles(0), 1);
        x = Due.square("m1,h2,h3,h4;019124231");
        Due.is("behind five", x.settles(0), 5);
        Due.is("0 fronts the river then", x.settles(10), -1);
        Due.is("1 fronts 2 then", x.settles(11), 2);
        Due.is("2 fronts 3 then", x.settles(12), 3);
        Due.is("3 fronts the river then", x.settles(13), -1);
        Due.is("no morning passed", x.count(9), 0);
        Due.is("0 fronts 1 now", x.house(0, 2), 1);
        Due.mornings(x, 2);
        Due.is("behind three more", x.settles(0), 3);
        Due.mornings(x, 3);
        Due.is("behind none more", x.settles(0), 0);
    }

    private static void promise17EachHouse() {
        Due.promise(17, "NONE: the RIVER, or there is none such");
        QuarrelWindows x = Due.square("h1,h2,h3,h4,h5,h6;011121231341451501");
        for (int house = 0; house < 6; house++) {
            Due.is("house " + house, x.settles(10 + house), (house + 1) % 6);
        }
        x = Due.square("h1,h2,h3;011121201");
        Due.is("house 2", x.settles(12), 0);
        for (int house = 3; house < 6; house++) {
            Due.is("house " + house + ", which is none", x.settles(10 + house), -1);
        }
        x = Due.square("h1,h2,h3,h4,h5;434");
        Due.is("house 4", x.settles(14), 3);
        Due.is("house 5, which is none", x.settles(15), -1);
    }

    private static void promise17TwentyMornings() {
        Due.promise(17, "no WINDOW TURNS on any of the 20 MORNINGS that follow");
        // The sham one fronts 2, until its anger at 1, by 1 less each morning, is no greater than that at 2.
        QuarrelWindows x = Due.square("s0,h0,h0;019019021");
        for (int quiet = 17; quiet <= 18; quiet++) {
            x.quarrel(0, 1, 1);
            Due.is("a turn behind " + quiet + " quiet mornings", x.settles(0), quiet + 1);
            Due.is("1 is the least of like ones", x.settles(10), 1);
        }
        Due.mornings(x, 18);
        Due.is("turned by then", x.count(10), 0);
        Due.is("the last turn is near", x.settles(0), 1);
        Due.is("it turns", x.morning(), 1);
        Due.is("settled", x.settles(0), 0);
    }

    private static void promise17FortyAtMost() {
        Due.promise(17, "behind 0 to 40 MORNINGS");
        QuarrelWindows x = Due.square("s3,t8,h4,f5;307022037203101");
        x.quarrel(0, 1, 7);
        x.quarrel(0, 2, 4);
        Due.is("as late as can be told", x.settles(0), 40);
        int front = x.settles(10);
        Due.mornings(x, 39);
        Due.is("39 mornings later", x.settles(0), 1);
        x.morning();
        Due.is("40 mornings later", x.settles(0), 0);
        Due.is("0 fronts what was told", x.house(0, 2), front);
        x = Due.square("s0,f9,s3,f8;028206011239101328");
        Due.is("behind 41", x.settles(0), -1);
        Due.is("house 1 then", x.settles(11), -1);
        x.morning();
        Due.is("a morning later", x.settles(0), 40);
        x = Due.square("s0,s4,f1,f8;037124");
        int[] more = {138, 16, 311, 106};
        for (int quarrel : more) {
            x.quarrel(quarrel / 100, quarrel / 10 % 10, quarrel % 10);
        }
        Due.is("later than that", x.settles(0), -1);
        Due.is("house 0 then", x.settles(10), -1);
        Due.is("house 2 then", x.settles(12), -1);
    }

    private static void promise17Never() {
        Due.promise(17, "NONE: it does not");
        QuarrelWindows x = Due.square("s4,s5,s7;206101014215028125");
        for (int times = 0; times < 4; times++) {
            Due.is("it never settles", x.settles(0), -1);
            for (int house = 0; house < 6; house++) {
                Due.is("house " + house, x.settles(10 + house), -1);
            }
            Due.mornings(x, 41);
        }
    }

    private static void promise17Refused() {
        Due.promise(17, "OUTSIDE");
        Refusals.outside("settles", (y, what) -> y.settles(what), 1, 5, 9, 16, -1, -10, 20);
        Due.promise(17, "STATE: no SQUARE");
        Refusals.refusesNone("settles(0)", y -> y.settles(0), QuarrelWindows.STATE);
        Refusals.refusesNone("settles(10)", y -> y.settles(10), QuarrelWindows.STATE);
        Refusals.refusesNone("settles(15)", y -> y.settles(15), QuarrelWindows.STATE);
        Due.promise(17, "OUTSIDE ahead of STATE");
        int[] outside = {1, 9, 16, -1};
        for (int what : outside) {
            Refusals.refusesNone("settles(" + what + ")", y -> y.settles(what), QuarrelWindows.OUTSIDE);
        }
    }

    private static void promise20Least() {
        Due.promise(20, "by how great a QUARREL with it now, the least, it FRONTS it");
        QuarrelWindows x = Due.square("h1,h2,h3;013");
        long before = x.digest();
        Due.is("more than the other", x.grudge(0, 2, 0), 4);
        Due.is("it does front it", x.grudge(0, 1, 0), 1);
        Due.is("one angry at none", x.grudge(2, 0, 5), 1);
        Due.is("nothing was done", x.digest(), before);
        Due.is("no quarrel", x.count(11), 0);
        Due.is("of like ones the least fronts", Due.square("h1,h2,h3;023").grudge(0, 1, 0), 3);
        Due.is("a sham one fronts the least", Due.square("s1,h2,h3;013").grudge(0, 2, 0), 1);
        x = Due.square("s1,h2,h3;013023");
        // By 1 it fronts 2, then 1 (3 and 3), then 2 (3 and 2); by 2 it fronts 2, 2 (4 and 3), then 1 (3 and 3).
        Due.is("a sham one, in a morning", x.grudge(0, 1, 1), 1);
        Due.is("a sham one, in two mornings", x.grudge(0, 1, 2), 2);
        Due.promise(20, "NONE");
        Due.is("a sham one, now", x.grudge(0, 1, 0), -1);
        x = Due.square("h1,h2,h3;011");
        x.build(0, 2, true);
        Due.is("a wall between", x.grudge(0, 2, 0), -1);
        x.peace(0, 1);
        Due.is("a wall between, angry at nobody else", x.grudge(0, 2, 0), -1);
        Due.is("from the other side", x.grudge(2, 0, 5), -1);
    }

    private static void promise20OneToNine() {
        Due.promise(20, "by 1 to 9");
        for (int other = 1; other <= 9; other++) {
            QuarrelWindows x = Due.square("h1,h2,h3,h4,h5,h6;54" + other);
            Due.is("the lesser house against " + other, x.grudge(5, 3, 0), other);
            x = Due.square("h1,h2,h3,h4,h5,h6;43" + other);
            Due.is("the greater house against " + other, x.grudge(4, 5, 0), other < 9 ? other + 1 : -1);
        }
        QuarrelWindows x = Due.square("h1,h2,h3;019");
        x.quarrel(0, 1, 1);
        Due.is("against 10", x.grudge(0, 2, 0), -1);
        x = Due.square("h1,h2,h3;029");
        x.quarrel(0, 2, 1);
        Due.is("the lesser house against 10", x.grudge(0, 1, 0), -1);
    }

    private static void promise20Behind() {
        Due.promise(20, "behind so many MORNINGS, 0 to 5");
        // A mild one is by 2 less angry each morning.
        QuarrelWindows x = Due.square("m1,h2,h3;");
        int[] due = {1, 3, 5, 7, 9, -1};
        for (int mornings = 0; mornings <= 5; mornings++) {
            Due.is("mild, behind " + mornings, x.grudge(0, 1, mornings), due[mornings]);
        }
        x.quarrel(0, 1, 2);
        Due.is("mild and angry by 2, behind 5", x.grudge(0, 1, 5), 9);
    }

    private static void promise20TwentyAtMost() {
        Due.promise(20, "ANGERS are 20 at most by that QUARREL, too");
        QuarrelWindows x = Due.square("h1,h2,h3;019019022029");
        x.quarrel(0, 1, 2);
        Due.is("20 at 1, 11 at 2: of like ones the least", x.grudge(0, 2, 0), -1);
        x = Due.square("h1,h2,h3;029029012019");
        x.quarrel(0, 2, 2);
        Due.is("20 at 2, 11 at 1", x.grudge(0, 1, 0), 9);
        x.quarrel(0, 1, 3);
        Due.is("20 at 2, 14 at 1", x.grudge(0, 1, 0), 6);
    }

    private static void promise20Refused() {
        Due.promise(20, "UNKNOWN: a, b, or they are the same");
        Refusals.unknownTwo("grudge", (y, a, b) -> y.grudge(a, b, 0));
        Due.promise(20, "OUTSIDE: mornings (0 to 5)");
        Refusals.outside("grudge", (y, mornings) -> y.grudge(0, 1, mornings), -1, 6, 7);
        Due.promise(20, "UNKNOWN ahead of OUTSIDE");
        Refusals.unknownTwo("grudge behind 6", (y, a, b) -> y.grudge(a, b, 6));
        Refusals.unknownTwo("grudge behind -1", (y, a, b) -> y.grudge(a, b, -1));
    }

    private static void wall(QuarrelWindows x, int mornings, int pair, int atRiver) {
        Due.is("walls(" + mornings + ", 0)", x.walls(mornings, 0), pair);
        Due.is("walls(" + mornings + ", 1)", x.walls(mornings, 1), atRiver);
    }

    private static void promise21Walls() {
        Due.promise(21, "0 which PAIR, 1 how many HOUSES FRONT the RIVER then");
        QuarrelWindows x = Due.square("h1,h2,h3;012101023");
        long before = x.digest();
        wall(x, 0, 1, 2);
        wall(x, 5, 1, 2);
        Due.is("nothing was done", x.digest(), before);
        Due.is("no wall was built", x.count(8), 0);
        x = Due.square("h1,h2,h3,h4;012233323");
        wall(x, 0, 23, 3);
        x = Due.square("h1,h2,h3,h4,h5,h6;011101231341431531");
        wall(x, 0, 1, 2);
    }

    private static void promise21LeastPair() {
        Due.promise(21, "of like ones the least; between which PAIR, where there is none");
        QuarrelWindows x = Due.square("h1,h2,h3,h4;232012");
        wall(x, 0, 1, 3);
        x.build(0, 1, true);
        wall(x, 0, 23, 4);
        x = Due.square("h1,h2,h3,h4,h5,h6;543211101");
        wall(x, 0, 1, 4);
        x.build(1, 0, true);
        wall(x, 0, 12, 5);
        x.build(2, 1, true);
        wall(x, 0, 45, 6);
    }

    private static void promise21None() {
        Due.promise(21, "NONE: none, if by none there are more than without it");
        QuarrelWindows x = Due.square("h1,h2,h3;");
        wall(x, 0, -1, -1);
        wall(x, 5, -1, -1);
        x = Due.square("h1,h2,h3;012023");
        wall(x, 0, -1, -1);
        Due.promise(21, "NONE: there is no PAIR without a WALL");
        x = Due.square("h1,h2,h3;011101");
        x.build(0, 1, true);
        x.build(0, 2, true);
        wall(x, 1, -1, -1);
        x.build(1, 2, true);
        wall(x, 1, -1, -1);
        Due.promise(21, "a WALL that stands already is none more");
        x = Due.square("h1,h2,h3;011");
        wall(x, 0, 1, 3);
        x.build(0, 1, true);
        wall(x, 0, -1, -1);
    }

    private static void promise21Behind() {
        Due.promise(21, "behind so many MORNINGS, 0 to 5");
        // Behind two mornings the lesser anger of a mild one is gone, behind three the greater one, too.
        QuarrelWindows x = Due.square("m1,h2,h3;015023");
        wall(x, 0, -1, -1);
        wall(x, 1, -1, -1);
        wall(x, 2, 1, 3);
        wall(x, 3, -1, -1);
        x = Due.square("m1,h2,h3;019");
        x.quarrel(0, 1, 1);
        wall(x, 4, 1, 3);
        wall(x, 5, -1, -1);
        x.quarrel(0, 1, 1);
        wall(x, 5, 1, 3);
    }

    private static void promise21EachPair() {
        Due.promise(21, "a PAIR: 10 times the lesser HOUSE, and the greater one");
        QuarrelWindows x = new QuarrelWindows();
        for (int a = 0; a < 6; a++) {
            for (int b = a + 1; b < 6; b++) {
                Due.type(x, "h1,h2,h3,h4,h5,h6;" + b + a + "3");
                x.square();
                wall(x, 1, 10 * a + b, 6);
            }
        }
    }

    private static void promise21Refused() {
        Due.promise(21, "OUTSIDE: mornings (0 to 5)");
        Refusals.outside("walls", (y, mornings) -> y.walls(mornings, 0), -1, 6, 7);
        Due.promise(21, "OUTSIDE: what (0, 1)");
        Refusals.outside("walls", (y, what) -> y.walls(0, what), -1, 2, 10);
        Due.promise(21, "STATE: no SQUARE");
        Refusals.refusesNone("walls(0, 0)", y -> y.walls(0, 0), QuarrelWindows.STATE);
        Refusals.refusesNone("walls(5, 1)", y -> y.walls(5, 1), QuarrelWindows.STATE);
        Due.promise(21, "OUTSIDE ahead of STATE");
        Refusals.refusesNone("walls(6, 0)", y -> y.walls(6, 0), QuarrelWindows.OUTSIDE);
        Refusals.refusesNone("walls(-1, 0)", y -> y.walls(-1, 0), QuarrelWindows.OUTSIDE);
        Refusals.refusesNone("walls(0, 2)", y -> y.walls(0, 2), QuarrelWindows.OUTSIDE);
        Refusals.refusesNone("walls(0, -1)", y -> y.walls(0, -1), QuarrelWindows.OUTSIDE);
    }
}
