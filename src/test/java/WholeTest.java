import java.math.BigInteger;

/** Promises 26 to 29: image, restore, count, digest; and the constants of the public face. */
public final class WholeTest {
    public static void main(String[] args) {
        constants();
        promise26Images();
        promise26Refused();
        promise27Restores();
        promise27EachThing();
        promise27WhatGoesOn();
        promise27OnItsOwn();
        promise27WhatIsSeen();
        promise27NoneKept();
        promise27AnotherSquare();
        promise28Nothing();
        promise28Houses();
        promise28Greatest();
        promise28All();
        promise28CountsOn();
        promise28Refused();
        promise29NoSquare();
        promise29Squares();
        promise29Wraps();
        Due.end();
    }

    private static void constants() {
        Due.is("NONE", QuarrelWindows.NONE, -1);
        Due.is("UNKNOWN", QuarrelWindows.UNKNOWN, -101);
        Due.is("OUTSIDE", QuarrelWindows.OUTSIDE, -102);
        Due.is("STATE", QuarrelWindows.STATE, -103);
        Due.is("FULL", QuarrelWindows.FULL, -104);
    }

    /** A square where each image keeps something of every kind: here of a ring, a stare and of walls. */
    private static QuarrelWindows lived() {
        QuarrelWindows x = Due.square("f3,t5,h2,m7,s4,h1;014105231349424501");
        x.build(0, 3, true);
        x.quarrel(5, 2, 6);
        x.quarrel(5, 3, 2);
        x.peace(5, 0);
        x.see(1, 0, 2);
        x.see(4, -1, 4);
        Due.mornings(x, 3);
        Due.is("some are torn", x.count(13), 6);
        Due.is("some have costs", x.count(14), 9);
        return x;
    }

    private static void changeAll(QuarrelWindows x) {
        x.tenant(0, 3);
        x.quarrel(1, 5, 9);
        x.peace(5, 2);
        x.build(0, 3, false);
        x.build(4, 5, true);
        x.quarrel(2, 4, 9);
        x.quarrel(4, 2, 9);
        x.quarrel(0, 1, 9);
        x.quarrel(1, 3, 9);
        x.quarrel(3, 0, 9);
        x.forget();
        x.see(1, 0, 0);
        Due.mornings(x, 5);
    }

    private static void promise26Images() {
        Due.promise(26, "how many MORNINGS there were");
        QuarrelWindows x = Due.square("h1,h2,h3;012");
        Due.is("none", x.image(), 0);
        x.morning();
        Due.is("one", x.image(), 1);
        Due.mornings(x, 100);
        Due.is("many", x.image(), 101);
        x = lived();
        long kept = x.digest();
        Due.is("three", x.image(), 3);
        Due.is("an image changes nothing", x.digest(), kept);
        Due.promise(26, "one; the latest");
        changeAll(x);
        long later = x.digest();
        Due.is("a later one", x.image(), 8);
        x.morning();
        Due.is("restore", x.restore(), 8);
        Due.is("all is as it was then", x.digest(), later);
        Due.is("the first is gone", x.restore(), 8);
    }

    private static void promise26Refused() {
        Due.promise(26, "STATE: no SQUARE");
        Refusals.refusesNone("image", y -> y.image(), QuarrelWindows.STATE);
        Due.refuses("image with a page", () -> Due.page("h1,h2,h3;"), y -> y.image(), QuarrelWindows.STATE);
        QuarrelWindows x = new QuarrelWindows();
        x.image();
        Due.type(x, "h1,h2,h3;");
        x.square();
        Due.is("none was kept by it", x.restore(), QuarrelWindows.STATE);
    }

    private static void promise27Restores() {
        Due.promise(27, "it goes on from the IMAGE: how many MORNINGS there were");
        QuarrelWindows x = lived();
        long kept = x.digest();
        x.image();
        changeAll(x);
        Due.is("mornings now", x.count(9), 8);
        Due.is("restore", x.restore(), 3);
        Due.is("mornings then", x.count(9), 3);
        Due.is("all is as it was", x.digest(), kept);
        changeAll(x);
        Due.is("restore again", x.restore(), 3);
        Due.is("restore what is as it was", x.restore(), 3);
        Due.is("all is as it was again", x.digest(), kept);
        x.morning();
        long later = x.digest();
        Due.is("a later image", x.image(), 4);
        changeAll(x);
        Due.is("the latest is kept", x.restore(), 4);
        Due.is("all is as it was then", x.digest(), later);
        x = Due.square("h1,h2,h3;012");
        x.image();
        Due.mornings(x, 2);
        Due.is("to no morning", x.restore(), 0);
    }

    /** One thing is changed behind the image, and restored. */
    private static void keeps(String what, Due.Call change) {
        QuarrelWindows x = lived();
        x.image();
        long kept = x.digest();
        change.ask(x);
        Due.is(what + " is another digest", x.digest() == kept ? 1 : 0, 0);
        x.restore();
        QuarrelWindows y = lived();
        y.image();
        Due.alike(what, x, y);
    }

    private static void promise27EachThing() {
        Due.promise(27, "an IMAGE keeps KINDS, ANGERS, WALLS, TORN, COST, MORNINGS, TURNED, QUARRELS, PEACES, SEEN");
        keeps("kind", x -> x.tenant(0, 3));
        keeps("anger", x -> x.quarrel(5, 0, 1));
        keeps("peace", x -> x.peace(0, 1));
        keeps("wall", x -> x.build(4, 5, true));
        keeps("a wall less", x -> x.build(0, 3, false));
        keeps("torn, cost, mornings, turned", x -> {
            Due.mornings(x, 9);
            return 0;
        });
        keeps("court", x -> x.court());
        keeps("seen", x -> x.see(1, 0, 0));
        keeps("forgotten", x -> x.forget());
        QuarrelWindows x = Due.square("h1,h2,h3,h4,h5;011121201341431");
        x.morning();
        x.image();
        Due.mornings(x, 2);
        Due.is("costs now", x.count(14), 9);
        Due.is("torn now", x.count(13), 6);
        x.restore();
        Due.is("costs of the image", x.count(14), 3);
        Due.is("torn of the image", x.count(13), 2);
    }

    private static void promise27WhatGoesOn() {
        Due.promise(27, "what an IMAGE does not keep stays as it is");
        QuarrelWindows x = lived();
        x.image();
        Due.type(x, "h1");
        x.calm(1, 0, 0);
        x.arbiter(1, 0);
        x.restore();
        Due.is("letters of the page", x.count(16), 2);
        Due.is("calm() counts on", x.count(18), 1);
        Due.is("arbiter() counts on", x.count(19), 1);
        Due.is("squares count on", x.count(17), 1);
        x.blank();
        x.restore();
        Due.is("an empty page", x.count(16), 0);
    }

    private static void promise27OnItsOwn() {
        Due.promise(27, "what comes behind it leaves the IMAGE as it is");
        QuarrelWindows x = lived();
        QuarrelWindows y = lived();
        x.image();
        x.restore();
        changeAll(x);
        changeAll(y);
        Due.is("behind restore it goes on alike", x.digest(), y.digest());
        x.restore();
        changeAll(x);
        Due.is("and again", x.digest(), y.digest());
        x = lived();
        x.image();
        Due.is("what is seen", x.forget(), 2);
        Due.is("what is seen behind restore", x.restore() + x.count(15), 5);
    }

    private static void promise27WhatIsSeen() {
        Due.promise(27, "an IMAGE keeps what is SEEN");
        QuarrelWindows x = Due.square("m1,m2,h3;");
        x.see(1, -1, 2);
        x.see(1, 0, 1);
        Due.is("span", x.span(1, 0, 1) * 100 + x.span(1, 0, 2), 304);
        x.image();
        x.forget();
        x.see(0, 1, 0);
        x.see(0, 2, 0);
        x.see(0, 2, 0);
        Due.is("nothing can be so", x.span(1, 0, 0), 0);
        x.restore();
        Due.is("what was seen", x.count(15), 2);
        Due.is("span as it was", x.span(1, 0, 1) * 100 + x.span(1, 0, 2), 304);
        x.see(1, 0, 0);
        x.restore();
        Due.is("the image has no part in what is seen later", x.count(15), 2);
        x.image();
        for (int seen = 3; seen <= 8; seen++) {
            x.see(0, 1, 0);
        }
        Due.is("full", x.see(0, 1, 0), QuarrelWindows.FULL);
        x.restore();
        Due.is("full no more", x.see(0, 1, 0), 3);
    }

    private static void promise27NoneKept() {
        Due.promise(27, "STATE: none was kept");
        Refusals.refusesNone("without a square", y -> y.restore(), QuarrelWindows.STATE);
        Due.refuses("with a page", () -> Due.page("h1,h2,h3;"), y -> y.restore(), QuarrelWindows.STATE);
        Due.refuses("with a square", WholeTest::lived, y -> y.restore(), QuarrelWindows.STATE);
    }

    private static QuarrelWindows anotherSince() {
        QuarrelWindows x = lived();
        x.image();
        Due.type(x, "f3,t5,h2,m7,s4,h1;014105231341424501");
        x.square();
        x.quarrel(3, 0, 5);
        x.morning();
        return x;
    }

    private static void promise27AnotherSquare() {
        Due.promise(27, "STATE: there is another SQUARE since");
        Due.refuses("another one since", WholeTest::anotherSince, y -> y.restore(), QuarrelWindows.STATE);
        QuarrelWindows x = anotherSince();
        Due.is("an image of that", x.image(), 1);
        x.morning();
        Due.is("restore that", x.restore(), 1);
        Due.is("mornings", x.count(9), 1);
        x = Due.square("h1,h2,h3;012");
        x.image();
        Due.type(x, "h1,h2,h3;012");
        x.square();
        Due.refusesNow("another one of the same text", x, y -> y.restore(), QuarrelWindows.STATE);
        x = Due.square("h1,h2,h3;012");
        x.image();
        Due.type(x, "h1,h2;012");
        x.square();
        Due.is("a page that was refused is no other", x.restore(), 0);
    }

    private static void counts(QuarrelWindows x, int... due) {
        for (int what = 0; what < due.length; what++) {
            Due.is("count(" + what + ")", x.count(what), due[what]);
        }
    }

    private static void promise28Nothing() {
        Due.promise(28, "each is 0 without a SQUARE; and where there is nothing of it");
        counts(new QuarrelWindows(), 0, 0, 0, 0, 0, 0, 0, 0, 0, 0, 0, 0, 0, 0, 0, 0, 0, 0, 0, 0);
        counts(Due.page("h1,h2,h3;"), 0, 0, 0, 0, 0, 0, 0, 0, 0, 0, 0, 0, 0, 0, 0, 0, 9, 0, 0, 0);
        counts(Due.square("h0,h0,h0;"), 3, 0, 0, 3, 0, 0, 0, 3, 0, 0, 0, 0, 0, 0, 0, 0, 0, 1, 0, 0);
    }

    private static void promise28Houses() {
        Due.promise(28, "HOUSES, ANGERS, VIEWS, STARES, RINGS, PRIESTS', WALLS");
        QuarrelWindows x = Due.square("h1,h2,h4,h8,h9,h7;012103122236501");
        // 0 and 1 stare; 2 fronts 3; 3 and 4 front the river; 5 fronts 0; none fronts 2, 4 and 5.
        counts(x, 6, 5, 14, 2, 17, 1, 0, 3, 0);
        x.quarrel(1, 2, 9);
        x.quarrel(2, 0, 7);
        // 0, 1 and 2 are a ring; none fronts 3, 4 and 5.
        counts(x, 6, 6, 30, 2, 17, 0, 1, 3, 0, 0, 0, 2, 0);
        x.build(0, 2, true);
        x.build(4, 5, true);
        // 2 fronts 3 again; none fronts 4 and 5.
        counts(x, 6, 6, 30, 2, 17, 0, 0, 2, 2);
        x = Due.square("h1,h2,h3,h4,h5,h6;011101231321451541");
        Due.is("three stares, each two once", x.count(5), 3);
        Due.is("no priest's", x.count(7), 0);
        x = Due.square("h1,h2,h3,h4,h5,h6;011121201341451531");
        Due.is("two rings", x.count(6), 2);
        Due.is("none fronts the river", x.count(3), 0);
        Due.is("no views", x.count(4), 0);
        Due.is("a ring of six is one", Due.square("h1,h2,h3,h4,h5,h6;011121231341451501").count(6), 1);
    }

    private static void promise28Greatest() {
        Due.promise(28, "each at its greatest");
        QuarrelWindows x = Due.square("h9,h9,h9,h9,h9,h9;");
        counts(x, 6, 0, 0, 6, 54, 0, 0, 6, 0);
        for (int a = 0; a < 6; a++) {
            for (int b = 0; b < 6; b++) {
                x.quarrel(a, b, 9);
                x.quarrel(a, b, 9);
                x.quarrel(a, b, 9);
                if (a < b) {
                    x.build(a, b, true);
                }
            }
        }
        counts(x, 6, 30, 600, 6, 54, 0, 0, 6, 15, 0, 0, 90, 0);
        for (int a = 0; a < 6; a++) {
            for (int b = a + 1; b < 6; b++) {
                x.build(a, b, false);
            }
        }
        // All but 0 front 0, which fronts 1.
        counts(x, 6, 30, 600, 0, 0, 1, 0, 4, 0);
        for (int a = 0; a < 6; a++) {
            for (int b = a + 1; b < 6; b++) {
                Due.is("peace", x.peace(a, b), 40);
            }
        }
        counts(x, 6, 0, 0, 6, 54, 0, 0, 6, 0, 0, 0, 90, 15);
    }

    private static void promise28All() {
        Due.promise(28, "MORNINGS, TURNED, QUARRELS, PEACES, TORN, COSTS, SEEN, letters, squares, calm(), arbiter()");
        QuarrelWindows x = Due.square("h1,h2,m4,h8,h9;015104206347431");
        x.morning();
        // 0 and 1 stare and are angrier by 1; so are 3 and 4; the mild one is less angry at 0.
        counts(x, 5, 5, 25, 0, 0, 2, 0, 1, 0, 1, 0, 0, 0, 4, 0, 0, 0, 1, 0, 0);
        x.quarrel(1, 2, 9);
        x.quarrel(0, 3, 1);
        x.peace(3, 4);
        x.see(1, 2, 0);
        x.calm(4, 1, 0);
        x.arbiter(1, 0);
        Due.type(x, "abc");
        // 0 fronts 1, 1 fronts 2, 2 fronts 0: a ring; 3 and 4 front the river.
        counts(x, 5, 5, 25, 2, 17, 0, 1, 2, 0, 1, 0, 2, 1, 4, 0, 1, 3, 1, 1, 1);
        Due.is("a morning", x.morning(), 0);
        Due.is("costs", x.count(14), 3);
        Due.is("a morning", x.morning(), 1);
        Due.is("costs", x.count(14), 6);
        Due.is("turned", x.count(10), 1);
    }

    private static void promise28CountsOn() {
        Due.promise(28, "how often one was read, and calls were done, counts on, whatever is read or restored");
        QuarrelWindows x = Due.square("h1,h2,h3;");
        x.image();
        x.calm(1, 0, 0);
        x.arbiter(1, 0);
        x.arbiter(1, 0);
        for (int squares = 2; squares <= 9; squares++) {
            Due.type(x, "h1,h2,h3");
            x.square();
            Due.is("a page that is none", x.count(17), squares - 1);
            Due.type(x, ";");
            x.square();
            Due.is("squares", x.count(17), squares);
            Due.is("calm()", x.count(18), 1);
            Due.is("arbiter()", x.count(19), 2);
        }
        x.image();
        x.restore();
        Due.is("squares behind restore", x.count(17), 9);
        Due.is("calm() behind restore", x.count(18), 1);
        Due.is("arbiter() behind restore", x.count(19), 2);
    }

    private static void promise28Refused() {
        Due.promise(28, "OUTSIDE");
        Refusals.outside("count", (y, what) -> y.count(what), -1, 20, 21, -2);
        Refusals.refusesNone("count(20)", y -> y.count(20), QuarrelWindows.OUTSIDE);
        Refusals.refusesNone("count(-1)", y -> y.count(-1), QuarrelWindows.OUTSIDE);
        Due.is("count(19)", Refusals.three().count(19), 0);
        Due.is("count(0)", Refusals.three().count(0), 3);
    }

    private static long digestOf(QuarrelWindows x, String page) {
        BigInteger h = BigInteger.valueOf(1093);
        int houses = x.count(0);
        for (int house = 0; house < houses; house++) {
            for (int what = 0; what <= 10; what++) {
                h = mix(h, x.house(house, what));
            }
            for (int other = 0; other < houses; other++) {
                if (other != house) {
                    h = mix(mix(h, x.anger(house, other)), x.wall(house, other));
                }
            }
        }
        if (houses > 0) {
            h = mix(h, x.settles(0));
            for (int what = 10; what <= 15; what++) {
                h = mix(h, x.settles(what));
            }
            h = mix(mix(h, x.walls(1, 0)), x.walls(1, 1));
            h = mix(h, x.grudge(0, 1, 2));
            for (int what = 0; what <= 2; what++) {
                h = mix(h, x.span(1, 0, what));
            }
        }
        for (char letter : page.toCharArray()) {
            h = mix(h, letter);
        }
        for (int what = 0; what <= 19; what++) {
            h = mix(h, x.count(what));
        }
        return h.longValue();
    }

    /** Not wrapped: that comes last, by the low bits that longValue() keeps. */
    private static BigInteger mix(BigInteger h, int number) {
        return h.multiply(BigInteger.valueOf(31)).add(BigInteger.valueOf(number));
    }

    private static void promise29NoSquare() {
        Due.promise(29, "with a SQUARE (all up to the next semicolon); letters of THE PAGE; what count() tells");
        QuarrelWindows x = new QuarrelWindows();
        Due.is("nothing", x.digest(), digestOf(x, ""));
        Due.type(x, "h~x");
        Due.is("a page", x.digest(), digestOf(x, "h~x"));
        String full = "t".repeat(38);
        x = Due.page(full);
        Due.is("a full page", x.digest(), digestOf(x, full));
    }

    private static void promise29Squares() {
        Due.promise(29, "of each HOUSE .. what count() tells for 0 to 19");
        QuarrelWindows x = lived();
        Due.is("a square", x.digest(), digestOf(x, ""));
        changeAll(x);
        Due.type(x, "s1,");
        Due.is("a square and a page", x.digest(), digestOf(x, "s1,"));
        Due.is("once more", x.digest(), x.digest());
        x = Due.square("m1,m2,f3;");
        Due.is("with a grudge of a mild one", x.digest(), digestOf(x, ""));
        x = Due.square("m1,m2,f3;021015016106025");
        Due.is("with a wall to build", x.digest(), digestOf(x, ""));
        x = Due.square("s1,m2,f3;017106125028");
        x.build(0, 2, true);
        x.see(1, 0, 1);
        Due.is("a small square", x.digest(), digestOf(x, ""));
        x.morning();
        Due.is("behind a morning", x.digest(), digestOf(x, ""));
        x.see(0, 1, 0);
        x.see(0, 2, 0);
        Due.is("where no span is", x.digest(), digestOf(x, ""));
        x = Due.square("s4,s5,s7;206101014215028125");
        Due.is("one that never settles", x.digest(), digestOf(x, ""));
        x = Due.square("h1,h2,h3;");
        Due.is("the least one", x.digest(), digestOf(x, ""));
        x = Due.square("m1,h2,h3;014022");
        Due.is("no wall to build now", x.walls(0, 0), -1);
        Due.is("a wall to build behind a morning", x.walls(1, 0), 1);
        Due.is("with it", x.digest(), digestOf(x, ""));
    }

    private static void promise29Wraps() {
        Due.promise(29, "as longs, wrapping");
        QuarrelWindows x = new QuarrelWindows();
        // 1093 times 31 to the 20, wrapped.
        BigInteger all = BigInteger.valueOf(31).pow(20).multiply(BigInteger.valueOf(1093));
        Due.is("it is more than a long", all.bitLength() > 63 ? 1 : 0, 1);
        Due.is("of nothing", x.digest(), all.longValue());
        int below = 0;
        for (int letters = 1; letters <= 38; letters++) {
            String text = "~".repeat(letters);
            x = Due.page(text);
            Due.is("of " + letters, x.digest(), digestOf(x, text));
            below += x.digest() < 0 ? 1 : 0;
        }
        Due.is("some are below 0, some above", below > 0 && below < 38 ? 1 : 0, 1);
    }
}
