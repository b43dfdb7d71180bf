/** Promises 26 to 29: image, restore, count, digest; and the constants. */
public final class WholeTest {
    public static void main(String[] args) {
        constants();
        images();
        imagesAreTheirOwn();
        imageRefusals();
        counts();
        countsOfAll();
        imagesOfWhatIsSeen();
        imagesOfCosts();
        digests();
        Due.end();
    }

    private static void constants() {
        Due.is("NONE", QuarrelWindows.NONE, -1);
        Due.is("UNKNOWN", QuarrelWindows.UNKNOWN, -101);
        Due.is("OUTSIDE", QuarrelWindows.OUTSIDE, -102);
        Due.is("STATE", QuarrelWindows.STATE, -103);
        Due.is("FULL", QuarrelWindows.FULL, -104);
    }

    /** A square where each image keeps something of every kind: here of a ring, a stare and of walls. */
    private static QuarrelWindows lived() {
        QuarrelWindows x = Due.square("f3,t5,h2,m7,s4,h1;014105231349424501");
        x.build(0, 3, true);
        x.quarrel(5, 2, 6);
        x.quarrel(5, 3, 2);
        x.peace(5, 0);
        x.see(1, 0, 2);
        x.see(4, -1, 4);
        Due.mornings(x, 3);
        Due.is("some are torn", x.count(13), 6);
        Due.is("some have costs", x.count(14), 9);
        return x;
    }

    private static void changeAll(QuarrelWindows x) {
        x.tenant(0, 3);
        x.quarrel(1, 5, 9);
        x.peace(5, 2);
        x.build(0, 3, false);
        x.build(4, 5, true);
        x.quarrel(2, 4, 9);
        x.quarrel(4, 2, 9);
        x.quarrel(0, 1, 9);
        x.quarrel(1, 3, 9);
        x.quarrel(3, 0, 9);
        x.forget();
        x.see(1, 0, 0);
        Due.mornings(x, 5);
    }

    private static void images() {
        QuarrelWindows x = lived();
        long kept = x.digest();
        Due.is("image", x.image(), 3);
        Due.is("an image changes nothing", x.digest(), kept);
        changeAll(x);
        Due.is("mornings now", x.count(9), 8);
        Due.is("restore", x.restore(), 3);
        Due.is("all is as it was", x.digest(), kept);
        changeAll(x);
        Due.is("restore again", x.restore(), 3);
        Due.is("all is as it was again", x.digest(), kept);
        x.morning();
        long later = x.digest();
        Due.is("a later image", x.image(), 4);
        changeAll(x);
        Due.is("the latest is kept", x.restore(), 4);
        Due.is("all is as it was then", x.digest(), later);
    }

    private static void imagesAreTheirOwn() {
        QuarrelWindows x = lived();
        QuarrelWindows y = lived();
        x.image();
        x.restore();
        changeAll(x);
        changeAll(y);
        Due.is("behind restore it goes on alike", x.digest(), y.digest());
        x.restore();
        changeAll(x);
        Due.is("and again", x.digest(), y.digest());
        x = lived();
        x.image();
        Due.type(x, "h1");
        x.calm(1, 0, 0);
        x.arbiter(1, 0);
        x.restore();
        Due.is("the page is not of the image", x.count(16), 2);
        Due.is("calm() counts on", x.count(18), 1);
        Due.is("arbiter() counts on", x.count(19), 1);
        Due.is("squares count on", x.count(17), 1);
        Due.is("what is seen", x.forget(), 2);
        Due.is("what is seen behind restore", x.restore() + x.count(15), 5);
    }

    private static void imagesOfWhatIsSeen() {
        QuarrelWindows x = Due.square("m1,m2,h3;");
        x.see(1, -1, 2);
        x.see(1, 0, 1);
        Due.is("span", x.span(1, 0, 1) * 100 + x.span(1, 0, 2), 304);
        x.image();
        x.forget();
        x.see(0, 1, 0);
        x.see(0, 2, 0);
        x.see(0, 2, 0);
        Due.is("nothing can be so", x.span(1, 0, 0), 0);
        x.restore();
        Due.is("what was seen", x.count(15), 2);
        Due.is("span as it was", x.span(1, 0, 1) * 100 + x.span(1, 0, 2), 304);
        x.see(1, 0, 0);
        x.restore();
        Due.is("the image has no part in what is seen later", x.count(15), 2);
    }

    private static void imagesOfCosts() {
        QuarrelWindows x = Due.square("h1,h2,h3,h4,h5;011121201341431");
        x.morning();
        x.image();
        Due.mornings(x, 2);
        Due.is("costs now", x.count(14), 9);
        Due.is("torn now", x.count(13), 6);
        x.restore();
        Due.is("costs of the image", x.count(14), 3);
        Due.is("torn of the image", x.count(13), 2);
    }

    private static void imageRefusals() {
        QuarrelWindows x = new QuarrelWindows();
        Due.refuses("image without a square", x, y -> y.image(), QuarrelWindows.STATE);
        Due.refuses("restore without a square", x, y -> y.restore(), QuarrelWindows.STATE);
        x = lived();
        Due.refuses("none was kept", x, y -> y.restore(), QuarrelWindows.STATE);
        x.image();
        Due.type(x, "f3,t5,h2,m7,s4,h1;014105231341424501");
        Due.is("another square", x.square(), 6);
        Due.refuses("another square since", x, y -> y.restore(), QuarrelWindows.STATE);
        Due.is("an image of that", x.image(), 0);
        x.morning();
        Due.is("restore that", x.restore(), 0);
        Due.is("mornings", x.count(9), 0);
    }

    private static void counts(QuarrelWindows x, int... due) {
        for (int what = 0; what < due.length; what++) {
            Due.is("count(" + what + ")", x.count(what), due[what]);
        }
    }

    private static void counts() {
        QuarrelWindows x = Due.square("h1,h2,h4,h8,h9,h7;012103122236501");
        // 0 and 1 stare; 2 fronts 3; 3 and 4 front the river; 5 fronts 0; none fronts 2, 4 and 5.
        counts(x, 6, 5, 14, 2, 17, 1, 0, 3, 0);
        x.quarrel(1, 2, 9);
        x.quarrel(2, 0, 7);
        // 0, 1 and 2 are a ring; none fronts 3, 4 and 5.
        counts(x, 6, 6, 30, 2, 17, 0, 1, 3, 0, 0, 0, 2, 0);
        x.build(0, 2, true);
        x.build(4, 5, true);
        // 2 fronts 3 again; none fronts 4 and 5.
        counts(x, 6, 6, 30, 2, 17, 0, 0, 2, 2);
        Due.refuses("count(-1)", x, y -> y.count(-1), QuarrelWindows.OUTSIDE);
        Due.refuses("count(20)", x, y -> y.count(20), QuarrelWindows.OUTSIDE);
        Due.refuses("count(MIN)", x, y -> y.count(Integer.MIN_VALUE), QuarrelWindows.OUTSIDE);
        x = Due.square("h1,h2,h3,h4,h5,h6;011101231321451541");
        Due.is("three stares", x.count(5), 3);
        Due.is("no priest's", x.count(7), 0);
        x = Due.square("h1,h2,h3,h4,h5,h6;011121201341451531");
        Due.is("two rings", x.count(6), 2);
        Due.is("none fronts the river", x.count(3), 0);
        Due.is("no views", x.count(4), 0);
        Due.is("outside without a square", new QuarrelWindows().count(20), QuarrelWindows.OUTSIDE);
    }

    private static void countsOfAll() {
        QuarrelWindows x = Due.square("h1,h2,m4,h8,h9;015104206347431");
        x.morning();
        // 0 and 1 stare and are angrier by 1; so are 3 and 4; the mild one is less angry at 0.
        counts(x, 5, 5, 25, 0, 0, 2, 0, 1, 0, 1, 0, 0, 0, 4, 0, 0, 0, 1, 0, 0);
        x.quarrel(1, 2, 9);
        x.quarrel(0, 3, 1);
        x.peace(3, 4);
        x.see(1, 2, 0);
        x.calm(4, 1, 0);
        x.arbiter(1, 0);
        Due.type(x, "abc");
        // 0 fronts 1, 1 fronts 2, 2 fronts 0: a ring; 3 and 4 front the river.
        counts(x, 5, 5, 25, 2, 17, 0, 1, 2, 0, 1, 0, 2, 1, 4, 0, 1, 3, 1, 1, 1);
        Due.is("a morning", x.morning(), 0);
        Due.is("costs", x.count(14), 3);
        Due.is("a morning", x.morning(), 1);
        Due.is("costs", x.count(14), 6);
        Due.is("turned", x.count(10), 1);
        x.blank();
        Due.type(x, "h1,h2,h3;");
        x.square();
        Due.is("squares", x.count(17), 2);
    }

    private static long digestOf(QuarrelWindows x, String page) {
        long h = 1093;
        int houses = x.count(0);
        for (int house = 0; house < houses; house++) {
            for (int what = 0; what <= 10; what++) {
                h = 31 * h + x.house(house, what);
            }
            for (int other = 0; other < houses; other++) {
                if (other != house) {
                    h = 31 * h + x.anger(house, other);
                    h = 31 * h + x.wall(house, other);
                }
            }
        }
        if (houses > 0) {
            h = 31 * h + x.settles(0);
            for (int what = 10; what <= 15; what++) {
                h = 31 * h + x.settles(what);
            }
            h = 31 * h + x.walls(1, 0);
            h = 31 * h + x.walls(1, 1);
            h = 31 * h + x.grudge(0, 1, 2);
            for (int what = 0; what <= 2; what++) {
                h = 31 * h + x.span(1, 0, what);
            }
        }
        for (char letter : page.toCharArray()) {
            h = 31 * h + letter;
        }
        for (int what = 0; what <= 19; what++) {
            h = 31 * h + x.count(what);
        }
        return h;
    }

    private static void digests() {
        QuarrelWindows x = new QuarrelWindows();
        Due.type(x, "h~x");
        Due.is("digest of a page", x.digest(), digestOf(x, "h~x"));
        x = lived();
        Due.is("digest of a square", x.digest(), digestOf(x, ""));
        changeAll(x);
        Due.type(x, "s1,");
        Due.is("digest of a square and a page", x.digest(), digestOf(x, "s1,"));
        Due.is("digest again", x.digest(), x.digest());
        x = Due.square("m1,m2,f3;");
        Due.is("digest with a grudge of a mild one", x.digest(), digestOf(x, ""));
        x = Due.square("m1,m2,f3;021015016106025");
        Due.is("digest with a wall to build", x.digest(), digestOf(x, ""));
        x = Due.square("s1,m2,f3;017106125028");
        x.build(0, 2, true);
        x.see(1, 0, 1);
        Due.is("digest of a small square", x.digest(), digestOf(x, ""));
        x.morning();
        Due.is("digest behind a morning", x.digest(), digestOf(x, ""));
    }
}
