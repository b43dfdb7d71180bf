/** Promises 22 to 25: see, forget, span, summers. */
public final class SeenTest {
    public static void main(String[] args) {
        promise22Sees();
        promise22Full();
        promise22Unknown();
        promise22Outside();
        promise22Order();
        promise23Forgets();
        promise24Spans();
        promise24ZeroToTwenty();
        promise24ByWhatIsSeen();
        promise24FromNow();
        promise24Looks();
        promise24LookBounds();
        promise24Refused();
        promise25Summers();
        promise25FortyMornings();
        promise25Seeds();
        promise25Refused();
        Due.end();
    }

    private static void promise22Sees() {
        Due.promise(22, "it is SEEN: how much is");
        QuarrelWindows x = Due.square("h1,h2,h3,h4;012");
        Due.is("a house", x.see(0, 1, 0), 1);
        Due.is("the river", x.see(1, -1, 5), 2);
        Due.is("what will not be so", x.see(3, 0, 1), 3);
        Due.is("the same once more", x.see(3, 0, 1), 4);
        Due.is("how much is seen", x.count(15), 4);
    }

    private static void promise22Full() {
        Due.promise(22, "8 at most: FULL");
        QuarrelWindows x = Due.square("h1,h2,h3;012");
        for (int seen = 1; seen <= 8; seen++) {
            Due.is("see " + seen, x.see(seen % 3, (seen + 1) % 3, seen % 6), seen);
        }
        Due.refusesNow("see 9", x, y -> y.see(0, 1, 0), QuarrelWindows.FULL);
        Due.refusesNow("see 9, the river", x, y -> y.see(2, -1, 5), QuarrelWindows.FULL);
        Due.is("forget", x.forget(), 8);
        Due.is("see again", x.see(0, 1, 0), 1);
        Due.refuses("see 9", SeenTest::eightSeen, y -> y.see(1, 0, 1), QuarrelWindows.FULL);
    }

    private static QuarrelWindows eightSeen() {
        QuarrelWindows x = Due.square("h1,h2,h3;012");
        x.image();
        for (int seen = 0; seen < 8; seen++) {
            x.see(0, 1, seen % 6);
        }
        return x;
    }

    private static void promise22Unknown() {
        Due.promise(22, "UNKNOWN: house");
        Refusals.unknownHouse("see", (y, house) -> y.see(house, 1, 0));
        Refusals.unknownHouse("see the river", (y, house) -> y.see(house, -1, 0));
        Due.promise(22, "UNKNOWN: faces (NONE: the RIVER; not the HOUSE itself)");
        int[] unknown = {3, 4, 6, -2, -101, Refusals.MIN, Refusals.MAX, 0};
        for (int faces : unknown) {
            Refusals.refusesThree("faces " + faces, y -> y.see(0, faces, 0), QuarrelWindows.UNKNOWN);
        }
        for (int house = 0; house < 6; house++) {
            int itself = house;
            Due.refuses("faces itself, " + house, Refusals::six, y -> y.see(itself, itself, 0), QuarrelWindows.UNKNOWN);
        }
        Due.refuses("faces 6", Refusals::six, y -> y.see(0, 6, 0), QuarrelWindows.UNKNOWN);
        Due.is("5 faces 4", Refusals.six().see(5, 4, 0), 2);
        Due.is("0 faces 5", Refusals.six().see(0, 5, 0), 2);
        Due.is("5 faces the river", Refusals.six().see(5, -1, 0), 2);
    }

    private static void promise22Outside() {
        Due.promise(22, "OUTSIDE: mornings (0 to 5)");
        Due.is("0", Refusals.six().see(0, 1, 0), 2);
        Due.is("5", Refusals.six().see(0, 1, 5), 2);
        Refusals.outside("see", (y, mornings) -> y.see(0, 1, mornings), -1, 6, 7);
        Refusals.outside("see the river", (y, mornings) -> y.see(0, -1, mornings), -1, 6);
    }

    private static void promise22Order() {
        Due.promise(22, "UNKNOWN ahead of OUTSIDE");
        Refusals.unknownHouse("see behind 6", (y, house) -> y.see(house, -1, 6));
        Refusals.refusesThree("faces -2 behind -1", y -> y.see(0, -2, -1), QuarrelWindows.UNKNOWN);
        Refusals.refusesThree("faces itself behind 6", y -> y.see(1, 1, 6), QuarrelWindows.UNKNOWN);
        Due.promise(22, "UNKNOWN ahead of FULL");
        Due.refuses("house 3", SeenTest::eightSeen, y -> y.see(3, 0, 0), QuarrelWindows.UNKNOWN);
        Due.refuses("faces itself", SeenTest::eightSeen, y -> y.see(0, 0, 0), QuarrelWindows.UNKNOWN);
        Due.promise(22, "OUTSIDE ahead of FULL");
        Due.refuses("behind 6", SeenTest::eightSeen, y -> y.see(0, 1, 6), QuarrelWindows.OUTSIDE);
        Due.refuses("behind -1", SeenTest::eightSeen, y -> y.see(0, -1, -1), QuarrelWindows.OUTSIDE);
    }

    private static void promise23Forgets() {
        Due.promise(23, "nothing is SEEN any more: how much was");
        Due.is("without a square", new QuarrelWindows().forget(), 0);
        QuarrelWindows x = Due.square("h1,h2,h3;012");
        Due.is("nothing was", x.forget(), 0);
        Due.alike("behind it", x, Due.square("h1,h2,h3;012"));
        x = Due.square("h1,h2,h3;012");
        for (int seen = 1; seen <= 8; seen++) {
            x.see(1, 2, 0);
            Due.is("seen", x.count(15), seen);
        }
        Due.is("nothing can be so", x.span(0, 1, 0), 0);
        Due.is("eight were", x.forget(), 8);
        Due.is("seen", x.count(15), 0);
        Due.is("nothing was", x.forget(), 0);
        Due.alike("behind all that", x, Due.square("h1,h2,h3;012"));
    }

    private static void span(QuarrelWindows x, int a, int b, int... due) {
        for (int what = 0; what < due.length; what++) {
            Due.is("span(" + a + ", " + b + ", " + what + ")", x.span(a, b, what), due[what]);
        }
    }

    private static void promise24Spans() {
        Due.promise(24, "0 how many, 1 the least, 2 the greatest (NONE: there are none)");
        QuarrelWindows x = Due.square("h1,h2,h3;023");
        long before = x.digest();
        span(x, 0, 1, 21, 0, 20, 0);
        Due.is("nothing was done", x.digest(), before);
        x.see(0, 1, 0);
        span(x, 0, 1, 18, 3, 20, 0);
        // Its anger at 1 is 0: it does not front 1, whatever that at 2 is.
        span(x, 0, 2, 0, -1, -1, -1);
        x.quarrel(0, 1, 5);
        span(x, 0, 2, 6, 0, 5, 0);
        span(x, 0, 1, 18, 3, 20, 0);
        x.see(0, -1, 0);
        span(x, 0, 1, 0, -1, -1, -1);
        Due.is("it is as it was", x.anger(0, 1), 5);
    }

    private static void promise24ZeroToTwenty() {
        Due.promise(24, "how great, 0 to 20, its ANGER at it can be");
        QuarrelWindows x = Due.square("h1,h2,h3,h4,h5,h6;");
        span(x, 5, 4, 21, 0, 20);
        x.see(5, -1, 0);
        span(x, 5, 4, 1, 0, 0, 0);
        x.forget();
        x.see(5, 4, 0);
        span(x, 5, 4, 20, 1, 20, 0);
        x.quarrel(5, 4, 1);
        // At 3 it would be angry by as much, at least: of like ones the least.
        span(x, 5, 3, 1, 0, 0, 0);
        x = Due.square("h1,h2,h3;019019");
        x.quarrel(0, 1, 1);
        x.see(0, 2, 0);
        span(x, 0, 2, 1, 20, 20, 0);
        x.quarrel(0, 1, 1);
        span(x, 0, 2, 0, -1, -1, -1);
        // It is tried by every anger, whatever its own is now.
        span(x, 0, 1, 0, -1, -1, -1);
        x.forget();
        span(x, 0, 1, 21, 0, 20);
    }

    private static void promise24ByWhatIsSeen() {
        Due.promise(24, "so that all that is SEEN will be so");
        QuarrelWindows x = Due.square("m1,h2,h3;125");
        x.see(0, -1, 2);
        span(x, 0, 1, 5, 0, 4);
        x.see(0, 1, 1);
        span(x, 0, 1, 2, 3, 4);
        x.see(1, 2, 5);
        span(x, 0, 1, 2, 3, 4);
        span(x, 0, 2, 0, -1, -1, -1);
        x.see(1, -1, 3);
        span(x, 0, 1, 0, -1, -1, -1);
        x.forget();
        span(x, 0, 1, 21, 0, 20);
        x = Due.square("h1,h2,h3;103");
        x.see(1, 2, 0);
        span(x, 1, 2, 17, 4, 20, 0);
        x = Due.square("s1,h2,h3;023");
        x.see(0, 1, 0);
        // Behind a morning it fronts 1 by 1 and 2, but 2 by 3.
        span(x, 0, 1, 3, 1, 3, 1);
        x.build(0, 1, true);
        span(x, 0, 1, 0, -1, -1, -1);
        // A mild one's anger is gone behind 5 mornings by 10, not by 11; all eight count, the last one, too.
        x = Due.square("m1,h2,h3;");
        for (int seen = 0; seen < 7; seen++) {
            x.see(1, -1, 0);
        }
        x.see(0, -1, 5);
        span(x, 0, 1, 11, 0, 10);
    }

    private static void promise24FromNow() {
        Due.promise(24, "MORNINGS from now (counted from what is as it is asked, not as it was SEEN)");
        QuarrelWindows x = Due.square("m1,h2,h3;125");
        x.see(0, -1, 2);
        span(x, 0, 1, 5, 0, 4);
        Due.mornings(x, 3);
        span(x, 0, 1, 5, 0, 4);
        x.tenant(0, 0);
        span(x, 0, 1, 1, 0, 0, 0);
    }

    private static void promise24Looks() {
        Due.promise(24, "3 LOOK: fewest of these are left at worst; NONE");
        QuarrelWindows x = Due.square("m1,h2,h3;");
        // Behind five mornings it fronts the river by 0 to 10, and 1 by 11 to 20: 11 are left at worst.
        span(x, 0, 1, 21, 0, 20, 5);
        x.see(0, -1, 5);
        x.see(0, 1, 0);
        // 1 to 10 are left: behind two mornings 4 and 6, behind three 6 and 4.
        span(x, 0, 1, 10, 1, 10, 2);
        x.see(0, 1, 2);
        span(x, 0, 1, 6, 5, 10, 3);
        x.see(0, 1, 4);
        span(x, 0, 1, 2, 9, 10, 0);
        x.see(1, 0, 0);
        span(x, 0, 1, 0, -1, -1, -1);
    }

    private static void promise24LookBounds() {
        Due.promise(24, "LOOK: behind how many MORNINGS, 0 to 5; of like ones the least; none, if there are none");
        QuarrelWindows x = Due.square("m1,h2,h3;");
        x.see(0, -1, 1);
        x.see(0, 1, 0);
        span(x, 0, 1, 2, 1, 2, 0);
        x = Due.square("s1,h2,h3;021");
        x.see(0, 1, 0);
        span(x, 0, 1, 1, 1, 1, 0);
        // Of six, the last one: it fronts that by 4 and more, else 4.
        x = Due.square("h1,h2,h3,h4,h5,h6;043");
        x.see(0, 5, 3);
        span(x, 0, 5, 17, 4, 20, 0);
        // By 1 to 3 it fronts 1 now, by 0 and above 3 it fronts 2; the later, the more of these have turned.
        x = Due.square("s1,h2,h3;023");
        span(x, 0, 1, 21, 0, 20, 5);
        x.see(1, 0, 0);
        span(x, 0, 1, 0, -1, -1, -1);
        Due.promise(24, "LOOK: where the HOUSE FRONTS, no other one");
        x = Due.square("h1,h2,m3;");
        span(x, 2, 1, 21, 0, 20, 5);
        span(x, 1, 2, 21, 0, 20, 0);
        x = Due.square("h1,h2,h3,h4,h5,m6;");
        x.see(5, -1, 3);
        x.see(5, 4, 0);
        // 1 to 6 are left: behind one morning 2 and 4, behind two 4 and 2.
        span(x, 5, 4, 6, 1, 6, 1);
        Due.promise(24, "LOOK: of like ones the least, where all 21 are left");
        x = Due.square("m1,h2,h3;");
        x.build(0, 1, true);
        span(x, 0, 1, 21, 0, 20, 0);
    }

    private static void promise24Refused() {
        Due.promise(24, "UNKNOWN: a, b, or they are the same");
        Refusals.unknownTwo("span", (y, a, b) -> y.span(a, b, 0));
        Due.promise(24, "OUTSIDE");
        Refusals.outside("span", (y, what) -> y.span(0, 1, what), -1, 4, 5, 10);
        Due.promise(24, "UNKNOWN ahead of OUTSIDE");
        Refusals.unknownTwo("span for 4", (y, a, b) -> y.span(a, b, 4));
        Refusals.unknownTwo("span for -1", (y, a, b) -> y.span(a, b, -1));
    }

    private static void summer(QuarrelWindows x, int mornings, int seed, int... due) {
        for (int what = 0; what < 3; what++) {
            Due.is("summers(" + mornings + ", " + seed + ", " + what + ")", x.summers(mornings, seed, what), due[what]);
        }
    }

    private static void promise25Summers() {
        Due.promise(25, "nothing, if it is the same; all three DRAWS are made then, too");
        QuarrelWindows x = Due.square("h1,h2,h3;121");
        long before = x.digest();
        // By seed 1 the draws are those of 16838, 5758, 10113; 17515, 31051, 5627; 23010, 7419, 16212:
        // 2 quarrels with 1 by 1; then 1 with itself; then 0 with itself.
        summer(x, 1, 1, 1, 0, 662824084);
        summer(x, 2, 1, 2, 0, 368800899);
        summer(x, 3, 1, 3, 0, 1062517886);
        // By seed 0: of 0, 21468 and 9988: 0 with itself.
        summer(x, 1, 0, 0, 0, 654583775);
        Due.is("nothing was done", x.digest(), before);
        Due.promise(25, "by a DRAW of 4 (0: nothing)");
        x = Due.square("h1,h2,h3,h4;");
        // By seed 1 of four: 16838 is 2, 5758 is 2: itself; 17515 is 3, 31051 is 3: itself;
        // 23010 is 2, 7419 is 3, 16212 is 0: nothing.
        summer(x, 3, 1, 0, 0, 1062517886);
        Due.promise(25, "1 how many WINDOWS TURN");
        x = Due.square("m1,m2,m3;");
        // 2 fronts 1 by 1 for a night: it turns back on the morning.
        summer(x, 1, 1, 0, 1, 662824084);
        x = Due.square("m1,h2,h3;013102");
        summer(x, 2, 0, 1, 1, seedBehind(0, 6));
        Due.promise(25, "how many STARES there are behind all MORNINGS, added up, each two once");
        summer(Due.square("h1,h2,h3,h4,h5,h6;019109239329459549"), 1, 1, 3, 0, 662824084);
    }

    private static int seedBehind(int seed, int draws) {
        long next = seed;
        for (int draw = 0; draw < draws; draw++) {
            next = (1103515245L * next + 12345L) % 2147483648L;
        }
        return (int) next;
    }

    private static void promise25FortyMornings() {
        Due.promise(25, "mornings (1 to 40)");
        // What is told of each morning is worked out here once more, by quarrels and mornings that are.
        int seed = 671;
        QuarrelWindows x = Due.square("f3,t5,h2,m7,s4;014104235321");
        QuarrelWindows y = Due.square("f3,t5,h2,m7,s4;014104235321");
        int stares = 0;
        for (int morning = 1; morning <= 40; morning++) {
            int[] drawn = new int[3];
            for (int draw = 0; draw < 3; draw++) {
                int of = draw == 2 ? 4 : 5;
                drawn[draw] = seedBehind(seed, 3 * morning - 2 + draw) / 65536 % of;
            }
            y.quarrel(drawn[0], drawn[1], drawn[2]);
            y.morning();
            stares += y.count(5);
            summer(x, morning, seed, stares, y.count(10), seedBehind(seed, 3 * morning));
        }
    }

    private static void promise25Seeds() {
        Due.promise(25, "2 the SEED then: its rest by 2 to the 31");
        QuarrelWindows x = Due.square("h1,h2,h3;");
        int[] seeds = {0, 1, 2, 1 << 30, Integer.MAX_VALUE - 1, Integer.MAX_VALUE};
        for (int seed : seeds) {
            Due.is("by seed " + seed, x.summers(1, seed, 2), seedBehind(seed, 3));
            Due.is("by seed " + seed + ", 40 mornings", x.summers(40, seed, 2), seedBehind(seed, 120));
        }
    }

    private static void promise25Refused() {
        Due.promise(25, "OUTSIDE: mornings (1 to 40)");
        Refusals.outside("summers", (y, mornings) -> y.summers(mornings, 1, 0), 0, 41, -1, 42);
        Due.promise(25, "OUTSIDE: seed (0 at least)");
        int[] seeds = {-1, -2, Integer.MIN_VALUE};
        for (int seed : seeds) {
            Refusals.refusesThree("seed " + seed, y -> y.summers(1, seed, 2), QuarrelWindows.OUTSIDE);
            Refusals.refusesNone("seed " + seed + " without a square", y -> y.summers(1, seed, 2), QuarrelWindows.OUTSIDE);
        }
        Due.promise(25, "OUTSIDE: what");
        Refusals.outside("summers", (y, what) -> y.summers(1, 1, what), -1, 3, 10);
        Due.promise(25, "STATE: no SQUARE");
        Refusals.refusesNone("summers(1, 0, 0)", y -> y.summers(1, 0, 0), QuarrelWindows.STATE);
        Refusals.refusesNone("summers(40, MAX, 2)", y -> y.summers(40, Refusals.MAX, 2), QuarrelWindows.STATE);
        Due.promise(25, "OUTSIDE ahead of STATE");
        Refusals.refusesNone("mornings 0", y -> y.summers(0, 1, 0), QuarrelWindows.OUTSIDE);
        Refusals.refusesNone("mornings 41", y -> y.summers(41, 1, 0), QuarrelWindows.OUTSIDE);
        Refusals.refusesNone("what 3", y -> y.summers(1, 1, 3), QuarrelWindows.OUTSIDE);
        Refusals.refusesNone("what -1", y -> y.summers(1, 1, -1), QuarrelWindows.OUTSIDE);
    }
}
