/** Promises 11 to 15: quarrel, peace, build, tenant, court. */
public final class DeedTest {
    public static void main(String[] args) {
        promise11Quarrels();
        promise11TwentyAtMost();
        promise11Refused();
        promise12Peaces();
        promise12Refused();
        promise13Walls();
        promise13AlreadySo();
        promise13Refused();
        promise14Tenants();
        promise14EachKind();
        promise14WhatStays();
        promise14Refused();
        promise15Courts();
        promise15EachRing();
        promise15LeastHouse();
        promise15Refused();
        Due.end();
    }

    private static void promise11Quarrels() {
        Due.promise(11, "how ANGRY a is at b then");
        QuarrelWindows x = Due.square("h1,h2,h3;013024");
        Due.is("by 1", x.quarrel(0, 1, 1), 4);
        Due.is("the window turns at once", x.house(0, 2), 1);
        Due.is("no morning saw it turn", x.count(10), 0);
        Due.is("by 9", x.quarrel(0, 1, 9), 13);
        Due.is("not the other way round", x.anger(1, 0), 0);
        Due.is("nor at another one", x.anger(0, 2), 4);
        Due.is("one that was not angry", x.quarrel(2, 1, 9), 9);
        Due.is("quarrels", x.count(11), 3);
        x.build(1, 0, true);
        Due.is("through a wall", x.quarrel(1, 0, 2), 2);
        Due.is("the window stays", x.house(1, 2), -1);
        for (int by = 1; by <= 9; by++) {
            Due.is("by " + by, Due.square("h1,t2,m3,s4,f5,h6;541").quarrel(5, 4, by), by + 1);
        }
    }

    private static void promise11TwentyAtMost() {
        Due.promise(11, "ANGERS are 20 at most");
        QuarrelWindows x = Due.square("h1,h2,h3;019");
        Due.is("9 and 9", x.quarrel(0, 1, 9), 18);
        Due.is("and 1", x.quarrel(0, 1, 1), 19);
        Due.is("and 1", x.quarrel(0, 1, 1), 20);
        Due.is("and 1", x.quarrel(0, 1, 1), 20);
        Due.is("and 9", x.quarrel(0, 1, 9), 20);
        Due.is("anger", x.anger(0, 1), 20);
        Due.is("each is a quarrel", x.count(11), 5);
        x = Due.square("h1,h2,h3;019");
        x.quarrel(0, 1, 3);
        Due.is("12 and 9", x.quarrel(0, 1, 9), 20);
    }

    private static void promise11Refused() {
        Due.promise(11, "UNKNOWN: a, b, or they are the same");
        Refusals.unknownTwo("quarrel", (y, a, b) -> y.quarrel(a, b, 1));
        Due.promise(11, "OUTSIDE: by (1 to 9)");
        Refusals.outside("quarrel", (y, by) -> y.quarrel(0, 1, by), 0, 10, -1, 11);
        Due.promise(11, "UNKNOWN ahead of OUTSIDE");
        Refusals.unknownTwo("quarrel by 0", (y, a, b) -> y.quarrel(a, b, 0));
        Refusals.unknownTwo("quarrel by 10", (y, a, b) -> y.quarrel(a, b, 10));
    }

    private static void promise12Peaces() {
        Due.promise(12, "how ANGRY both were together");
        QuarrelWindows x = Due.square("h1,h2,h3;013104021125");
        Due.is("of both", x.peace(1, 0), 7);
        Due.is("0 at 1", x.anger(0, 1), 0);
        Due.is("1 at 0", x.anger(1, 0), 0);
        Due.is("other angers stay", x.count(2), 6);
        Due.is("the window of 0 turns", x.house(0, 2), 2);
        Due.is("that of 1, too", x.house(1, 2), 2);
        Due.is("the first alone", x.peace(1, 2), 5);
        Due.is("the second alone", x.peace(2, 0), 1);
        Due.is("the river again", x.house(0, 2), -1);
        Due.is("no morning saw it turn", x.count(10), 0);
        Due.is("peaces", x.count(12), 3);
        x = Due.square("h1,h2,h3,h4,h5,h6;");
        for (int times = 0; times < 3; times++) {
            x.quarrel(5, 4, 9);
            x.quarrel(4, 5, 9);
        }
        x.build(4, 5, true);
        Due.is("as angry as can be, through a wall", x.peace(4, 5), 40);
        Due.is("the wall stays", x.wall(4, 5), 1);
        Due.is("least angry", Due.square("h1,h2,h3;121").peace(1, 2), 1);
    }

    private static void promise12Refused() {
        Due.promise(12, "UNKNOWN: a, b, or they are the same");
        Refusals.unknownTwo("peace", (y, a, b) -> y.peace(a, b));
        Due.promise(12, "STATE: neither was");
        Refusals.refusesThree("between 0 and 2", y -> y.peace(0, 2), QuarrelWindows.STATE);
        Refusals.refusesThree("between 2 and 0", y -> y.peace(2, 0), QuarrelWindows.STATE);
        QuarrelWindows x = Due.square("h1,h2,h3;012");
        Due.is("peace", x.peace(0, 1), 2);
        Due.is("once more", x.peace(0, 1), QuarrelWindows.STATE);
        Due.is("peaces", x.count(12), 1);
        x = Due.square("m1,h2,h3;012");
        x.morning();
        Due.is("where an anger is gone", x.peace(0, 1), QuarrelWindows.STATE);
    }

    private static void promise13Walls() {
        Due.promise(13, "a WALL is built between two, or pulled down: whether there was one, 1, 0");
        QuarrelWindows x = Due.square("h1,h2,h3;013101022");
        Due.is("built", x.build(0, 1, true), 0);
        Due.is("the window of 0 turns", x.house(0, 2), 2);
        Due.is("that of 1, too", x.house(1, 2), -1);
        Due.is("another one", x.build(2, 1, true), 0);
        Due.is("walls", x.count(8), 2);
        Due.is("pulled down from the other side", x.build(1, 0, false), 1);
        Due.is("one is left", x.count(8), 1);
        Due.is("it stands", x.wall(1, 2), 1);
        Due.is("the windows turn back", 10 * x.house(0, 2) + x.house(1, 2), 10);
        Due.is("angers stay", x.count(2), 6);
        Due.is("no morning saw them turn", x.count(10), 0);
    }

    private static void promise13AlreadySo() {
        Due.promise(13, "whether there was one, where it is built again, or pulled down again");
        QuarrelWindows x = Due.square("h1,h2,h3;013101022");
        Due.is("pulled down where there is none", x.build(0, 1, false), 0);
        Due.is("walls", x.count(8), 0);
        x.build(0, 1, true);
        Due.is("built again", x.build(1, 0, true), 1);
        Due.is("it is one wall", x.count(8), 1);
        Due.is("pulled down", x.build(0, 1, false), 1);
        Due.is("pulled down again", x.build(0, 1, false), 0);
        x = Due.square("h1,h2,h3,h4,h5,h6;");
        int walls = 0;
        for (int a = 0; a < 6; a++) {
            for (int b = a + 1; b < 6; b++) {
                walls++;
                Due.is("between " + a + " and " + b, x.build(b, a, true), 0);
                Due.is("walls", x.count(8), walls);
            }
        }
    }

    private static void promise13Refused() {
        Due.promise(13, "UNKNOWN: a, b, or they are the same");
        Refusals.unknownTwo("build", (y, a, b) -> y.build(a, b, true));
        Refusals.unknownTwo("build down", (y, a, b) -> y.build(a, b, false));
    }

    private static void promise14Tenants() {
        Due.promise(14, "of which KIND the HOUSE was; the new one is ANGRY at nobody (others may be at it)");
        QuarrelWindows x = Due.square("h1,t2,h3;014105122201");
        Due.is("a tenant", x.tenant(1, 3), 1);
        Due.is("of another kind", x.house(1, 0), 3);
        Due.is("angry at nobody", x.house(1, 4), 0);
        Due.is("it fronts the river", x.house(1, 2), -1);
        Due.is("no morning saw it turn", x.count(10), 0);
        Due.is("another one at it", x.anger(0, 1), 4);
        Due.is("others at others", x.anger(2, 0), 1);
        Due.is("of the same kind", x.tenant(1, 3), 3);
        Due.is("0 is as it was", x.house(0, 0), 0);
        Due.is("a tenant of the last kind", x.tenant(2, 4), 0);
        Due.is("as a hot one", x.as(2, 1), 2);
        x = Due.square("h1,h2,h3,h4,h5,t6;502511523534545054");
        Due.is("a tenant of the last of six", x.tenant(5, 2), 1);
        Due.is("angry at nobody", x.house(5, 4), 0);
        Due.is("who fronts it", x.house(5, 3), 1);
        x = Due.square("h1,h2,h3;019");
        Due.is("of the kind that was there", x.tenant(0, 0), 0);
        Due.is("angry at nobody, too", x.anger(0, 1), 0);
    }

    private static void promise14EachKind() {
        for (int old = 0; old < 5; old++) {
            for (int kind = 0; kind < 5; kind++) {
                QuarrelWindows x = Due.square("h1,h2," + "htmsf".charAt(old) + "3;");
                Due.is("from " + old + " to " + kind, x.tenant(2, kind), old);
                Due.is("the kind then", x.house(2, 0), kind);
            }
        }
        QuarrelWindows x = Due.square("m1,h2,h3;019");
        x.tenant(0, 3);
        x.quarrel(0, 1, 9);
        x.quarrel(0, 2, 8);
        Due.is("a sham one fronts the least", x.house(0, 2), 2);
        x.tenant(0, 1);
        x.quarrel(0, 1, 9);
        x.morning();
        Due.is("a hot one is angrier", x.anger(0, 1), 10);
    }

    private static void promise14WhatStays() {
        QuarrelWindows x = Due.square("h1,t2,h3;014105122201");
        x.morning();
        x.build(1, 2, true);
        x.tenant(1, 3);
        Due.is("what was torn", x.house(1, 9), 1);
        Due.is("the view", x.house(1, 1), 2);
        Due.is("the wall", x.wall(1, 2), 1);
        x = Due.square("h1,t2,h3;011121201");
        x.morning();
        x.tenant(0, 2);
        Due.is("what it cost", x.house(0, 10), 1);
    }

    private static void promise14Refused() {
        Due.promise(14, "UNKNOWN: house");
        Refusals.unknownHouse("tenant", (y, house) -> y.tenant(house, 0));
        Due.promise(14, "OUTSIDE: kind");
        Refusals.outside("tenant", (y, kind) -> y.tenant(0, kind), 5, -1);
        Due.promise(14, "UNKNOWN ahead of OUTSIDE");
        Refusals.unknownHouse("tenant", (y, house) -> y.tenant(house, 5));
        Refusals.unknownHouse("tenant", (y, house) -> y.tenant(house, -1));
    }

    private static void promise15Courts() {
        Due.promise(15, "how many HOUSES the RING had; each is not ANGRY any more at the one it FRONTS");
        QuarrelWindows x = Due.square("h1,h2,h3,h4;012021122201304");
        Due.is("of three", x.court(), 3);
        Due.is("0 at 1", x.anger(0, 1), 0);
        Due.is("1 at 2", x.anger(1, 2), 0);
        Due.is("2 at 0", x.anger(2, 0), 0);
        Due.is("0 at 2, which it did not front", x.anger(0, 2), 1);
        Due.is("3, which was not in it", x.anger(3, 0), 4);
        Due.is("the window of 0 turns", x.house(0, 2), 2);
        Due.is("no morning saw it turn", x.count(10), 0);
        Due.is("it is no peace", x.count(12), 0);
        x = Due.square("h1,h2,h3;012101122201");
        x.quarrel(1, 2, 1);
        Due.is("of one angry both ways", x.court(), 3);
        Due.is("1 at 0, which it did not front", x.anger(1, 0), 1);
    }

    private static void promise15EachRing() {
        String houses = "h1,h2,h3,h4,h5,h6";
        for (int ring = 3; ring <= 6; ring++) {
            StringBuilder text = new StringBuilder(houses).append(';');
            for (int house = 0; house < ring; house++) {
                text.append(house).append((house + 1) % ring).append(9 - house);
            }
            QuarrelWindows x = Due.square(text.toString());
            Due.is("of " + ring, x.court(), ring);
            Due.is("no angers", x.count(1), 0);
            Due.is("none is left", x.court(), QuarrelWindows.STATE);
        }
    }

    private static void promise15LeastHouse() {
        Due.promise(15, "it ends the RING that has the least HOUSE of all RINGS");
        QuarrelWindows x = Due.square("h1,h2,h3,h4;014121231311");
        Due.is("a ring without 0", x.court(), 3);
        Due.is("0, which leads into it", x.anger(0, 1), 4);
        Due.is("all others", x.count(1), 1);
        x = Due.square("h1,h2,h3,h4,h5,h6;121251511031341401");
        Due.is("rings", x.count(6), 2);
        Due.is("the one with 0", x.court(), 3);
        Due.is("0 at 3", x.anger(0, 3), 0);
        Due.is("3 at 4", x.anger(3, 4), 0);
        Due.is("4 at 0", x.anger(4, 0), 0);
        Due.is("1 at 2", x.anger(1, 2), 1);
        Due.is("one is left", x.count(6), 1);
        Due.is("the other one", x.court(), 3);
        Due.is("5 at 1", x.anger(5, 1), 0);
        Due.is("none is left", x.court(), QuarrelWindows.STATE);
    }

    private static void noRing(String text) {
        Due.refuses("court of " + text, () -> {
            QuarrelWindows x = Due.square(text);
            x.image();
            x.morning();
            return x;
        }, y -> y.court(), QuarrelWindows.STATE);
    }

    private static void promise15Refused() {
        Due.promise(15, "STATE: there is no RING");
        Refusals.refusesNone("court without a square", y -> y.court(), QuarrelWindows.STATE);
        noRing("h1,h2,h3;");
        noRing("h1,h2,h3;013102");
        noRing("h1,h2,h3;011121");
        noRing("h1,h2,h3;011121211");
        noRing("h1,h2,h3,h4,h5,h6;011101231321451541");
        noRing("h1,h2,h3,h4,h5,h6;011121231341451541");
        Due.refuses("where a wall stands", () -> {
            QuarrelWindows x = Due.square("h1,h2,h3;012122202");
            x.build(0, 2, true);
            return x;
        }, y -> y.court(), QuarrelWindows.STATE);
    }
}
