/** Promises 22 to 25: see, forget, span, summers. */
public final class SeenTest {
    public static void main(String[] args) {
        sees();
        seeRefusals();
        spans();
        spansOfSeen();
        looks();
        spanRefusals();
        summers();
        longSummers();
        summerRefusals();
        Due.end();
    }

    private static void sees() {
        QuarrelWindows x = Due.square("h1,h2,h3,h4;012");
        Due.is("a house", x.see(0, 1, 0), 1);
        Due.is("the river", x.see(1, -1, 5), 2);
        Due.is("what will not be so", x.see(3, 0, 1), 3);
        Due.is("the same once more", x.see(3, 0, 1), 4);
        Due.is("how much is seen", x.count(15), 4);
        Due.is("forget", x.forget(), 4);
        Due.is("forget again", x.forget(), 0);
        Due.is("nothing is seen", x.count(15), 0);
        Due.is("see again", x.see(0, 1, 0), 1);
    }

    private static void seeRefusals() {
        QuarrelWindows x = Due.square("h1,h2,h3;012");
        Due.refuses("house 3", x, y -> y.see(3, 0, 6), QuarrelWindows.UNKNOWN);
        Due.refuses("house -1", x, y -> y.see(-1, 0, 0), QuarrelWindows.UNKNOWN);
        Due.refuses("faces 3", x, y -> y.see(0, 3, 6), QuarrelWindows.UNKNOWN);
        Due.refuses("faces -2", x, y -> y.see(0, -2, 0), QuarrelWindows.UNKNOWN);
        Due.refuses("faces itself", x, y -> y.see(1, 1, 0), QuarrelWindows.UNKNOWN);
        Due.refuses("mornings 6", x, y -> y.see(0, 1, 6), QuarrelWindows.OUTSIDE);
        Due.refuses("mornings -1", x, y -> y.see(0, -1, -1), QuarrelWindows.OUTSIDE);
        for (int seen = 1; seen <= 8; seen++) {
            Due.is("see " + seen, x.see(0, 1, 0), seen);
        }
        Due.refuses("see 9", x, y -> y.see(0, 1, 0), QuarrelWindows.FULL);
        Due.refuses("see 9, outside", x, y -> y.see(0, 1, 6), QuarrelWindows.OUTSIDE);
        Due.refuses("see 9, unknown", x, y -> y.see(0, 0, 0), QuarrelWindows.UNKNOWN);
        Due.is("forget", x.forget(), 8);
    }

    private static void span(QuarrelWindows x, int a, int b, int... due) {
        for (int what = 0; what < due.length; what++) {
            Due.is("span(" + a + ", " + b + ", " + what + ")", x.span(a, b, what), due[what]);
        }
    }

    private static void spans() {
        QuarrelWindows x = Due.square("h1,h2,h3;023");
        span(x, 0, 1, 21, 0, 20, 0);
        x.see(0, 1, 0);
        span(x, 0, 1, 18, 3, 20, 0);
        // Its anger at 2 is 3: it does not front 1, whatever that at 2 is, unless it is 0 there.
        span(x, 0, 2, 0, -1, -1, -1);
        x.quarrel(0, 1, 5);
        span(x, 0, 2, 6, 0, 5, 0);
        span(x, 0, 1, 18, 3, 20, 0);
        x.see(0, -1, 0);
        span(x, 0, 1, 0, -1, -1, -1);
        Due.is("nothing was done", x.anger(0, 1), 5);
    }

    private static void spansOfSeen() {
        QuarrelWindows x = Due.square("m1,h2,h3;125");
        x.see(0, -1, 2);
        span(x, 0, 1, 5, 0, 4);
        x.morning();
        // Counted from what is as it is asked.
        span(x, 0, 1, 5, 0, 4);
        x.see(0, 1, 1);
        span(x, 0, 1, 2, 3, 4);
        x.see(1, 2, 5);
        span(x, 0, 1, 2, 3, 4);
        span(x, 0, 2, 0, -1, -1, -1);
        x.see(1, -1, 3);
        span(x, 0, 1, 0, -1, -1, -1);
        x.forget();
        span(x, 0, 1, 21, 0, 20);
        x = Due.square("h1,h2,h3;103");
        x.see(1, 2, 0);
        span(x, 1, 2, 17, 4, 20, 0);
        x = Due.square("s1,h2,h3;023");
        x.see(0, 1, 0);
        // Behind a morning it fronts 1 by 1 and 2, but 2 by 3.
        span(x, 0, 1, 3, 1, 3, 1);
        x.build(0, 1, true);
        span(x, 0, 1, 0, -1, -1, -1);
    }

    private static void looks() {
        QuarrelWindows x = Due.square("m1,h2,h3;");
        // Behind five mornings it fronts the river by 0 to 10, and 1 by 11 to 20: 11 are left at worst.
        span(x, 0, 1, 21, 0, 20, 5);
        x.see(0, -1, 5);
        x.see(0, 1, 0);
        // 1 to 10 are left: behind two mornings 4 and 6, behind three 6 and 4.
        span(x, 0, 1, 10, 1, 10, 2);
        x.see(0, 1, 2);
        span(x, 0, 1, 6, 5, 10, 3);
        x.see(0, 1, 4);
        span(x, 0, 1, 2, 9, 10, 0);
        x.see(1, 0, 0);
        span(x, 0, 1, 0, -1, -1, -1);
        x.forget();
        x.see(0, -1, 1);
        x.see(0, 1, 0);
        span(x, 0, 1, 2, 1, 2, 0);
        x = Due.square("s1,h2,h3;021");
        x.see(0, 1, 0);
        span(x, 0, 1, 1, 1, 1, 0);
        // Of six, the last one: it fronts that by 4 and more, else 4.
        x = Due.square("h1,h2,h3,h4,h5,h6;043");
        x.see(0, 5, 3);
        span(x, 0, 5, 17, 4, 20, 0);
        // By 1 to 3 it fronts 1 now, by 0 and above 3 it fronts 2; the later, the more of these have turned.
        x = Due.square("s1,h2,h3;023");
        span(x, 0, 1, 21, 0, 20, 5);
    }

    private static void spanRefusals() {
        QuarrelWindows x = Due.square("h1,h2,h3;012");
        Due.refuses("of itself", x, y -> y.span(1, 1, 4), QuarrelWindows.UNKNOWN);
        Due.refuses("of house 3", x, y -> y.span(3, 0, 4), QuarrelWindows.UNKNOWN);
        Due.refuses("for house 3", x, y -> y.span(0, 3, 0), QuarrelWindows.UNKNOWN);
        Due.refuses("of house -1", x, y -> y.span(-1, 0, 0), QuarrelWindows.UNKNOWN);
        Due.refuses("what 4", x, y -> y.span(0, 1, 4), QuarrelWindows.OUTSIDE);
        Due.refuses("what -1", x, y -> y.span(0, 1, -1), QuarrelWindows.OUTSIDE);
    }

    private static void summer(QuarrelWindows x, int mornings, int seed, int... due) {
        for (int what = 0; what < 3; what++) {
            Due.is("summers(" + mornings + ", " + seed + ", " + what + ")", x.summers(mornings, seed, what), due[what]);
        }
    }

    private static void summers() {
        QuarrelWindows x = Due.square("h1,h2,h3;121");
        long before = x.digest();
        // By seed 1 the draws are those of 16838, 5758, 10113; 17515, 31051, 5627; 23010, 7419, 16212:
        // 2 quarrels with 1 by 1; then 1 with itself; then 0 with itself.
        summer(x, 1, 1, 1, 0, 662824084);
        summer(x, 2, 1, 2, 0, 368800899);
        summer(x, 3, 1, 3, 0, 1062517886);
        // By seed 0: of 0, 21468 and 9988: 0 with itself.
        summer(x, 1, 0, 0, 0, 654583775);
        Due.is("nothing was done", x.digest(), before);
        x = Due.square("h1,h2,h3,h4;");
        // By seed 1 of four: 16838 is 2, 5758 is 2: itself; 17515 is 3, 31051 is 3: itself;
        // 23010 is 2, 7419 is 3, 16212 is 0: nothing.
        summer(x, 3, 1, 0, 0, 1062517886);
        x = Due.square("m1,m2,m3;");
        // 2 fronts 1 by 1 for a night: it turns back on the morning.
        summer(x, 1, 1, 0, 1, 662824084);
        x = Due.square("m1,h2,h3;013102");
        summer(x, 2, 0, 1, 1, x.summers(2, 0, 2));
    }

    private static void longSummers() {
        // Of each morning the three draws are told in a row of their own, worked out here once more.
        int seed = 671;
        QuarrelWindows x = Due.square("f3,t5,h2,m7,s4;014104235321");
        QuarrelWindows y = Due.square("f3,t5,h2,m7,s4;014104235321");
        long next = seed;
        int stares = 0;
        for (int morning = 1; morning <= 40; morning++) {
            int[] drawn = new int[3];
            for (int draw = 0; draw < 3; draw++) {
                next = (1103515245L * next + 12345L) % 2147483648L;
                drawn[draw] = (int) (next / 65536 % (draw == 2 ? 4 : 5));
            }
            y.quarrel(drawn[0], drawn[1], drawn[2]);
            y.morning();
            stares += y.count(5);
            summer(x, morning, seed, stares, y.count(10), (int) next);
        }
        Due.is("the greatest seed", x.summers(1, Integer.MAX_VALUE, 2), greatestSeedThen());
    }

    private static long greatestSeedThen() {
        long seed = Integer.MAX_VALUE;
        for (int draw = 0; draw < 3; draw++) {
            seed = (1103515245L * seed + 12345L) % 2147483648L;
        }
        return seed;
    }

    private static void summerRefusals() {
        QuarrelWindows x = Due.square("h1,h2,h3;012");
        Due.refuses("mornings 0", x, y -> y.summers(0, 1, 0), QuarrelWindows.OUTSIDE);
        Due.refuses("mornings 41", x, y -> y.summers(41, 1, 0), QuarrelWindows.OUTSIDE);
        Due.refuses("seed -1", x, y -> y.summers(1, -1, 0), QuarrelWindows.OUTSIDE);
        Due.refuses("seed MIN", x, y -> y.summers(1, Integer.MIN_VALUE, 0), QuarrelWindows.OUTSIDE);
        Due.refuses("what 3", x, y -> y.summers(1, 1, 3), QuarrelWindows.OUTSIDE);
        Due.refuses("what -1", x, y -> y.summers(1, 1, -1), QuarrelWindows.OUTSIDE);
        x = new QuarrelWindows();
        Due.refuses("no square", x, y -> y.summers(1, 1, 0), QuarrelWindows.STATE);
        Due.refuses("no square, outside", x, y -> y.summers(0, 1, 0), QuarrelWindows.OUTSIDE);
    }
}
