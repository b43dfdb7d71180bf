/** Promises 6 to 10: house, as, anger, line, wall. */
public final class HouseTest {
    public static void main(String[] args) {
        promise6KindAndView();
        promise6Windows();
        promise6ShamWindows();
        promise6WhoFrontsIt();
        promise6AllAngers();
        promise6Stares();
        promise6Rings();
        promise6GreatestRings();
        promise6Lines();
        promise6TornAndCost();
        promise6Refused();
        promise7Kinds();
        promise7Refused();
        promise8Angers();
        promise8Refused();
        promise9Lines();
        promise9Refused();
        promise10Walls();
        promise10Refused();
        Due.end();
    }

    /** A quarrel after another, until one is as angry as can be. */
    private static void enrage(QuarrelWindows x, int a, int b) {
        for (int times = 0; times < 3; times++) {
            x.quarrel(a, b, 9);
        }
    }

    private static void promise6KindAndView() {
        Due.promise(6, "0 KIND, 1 what the VIEW is worth");
        QuarrelWindows x = Due.square("h0,t9,m5,s4,f3,h2;");
        int[] kinds = {0, 1, 2, 3, 4, 0};
        int[] views = {0, 9, 5, 4, 3, 2};
        for (int house = 0; house < 6; house++) {
            Due.is("kind of " + house, x.house(house, 0), kinds[house]);
            Due.is("view of " + house, x.house(house, 1), views[house]);
        }
    }

    private static void promise6Windows() {
        Due.promise(6, "it FRONTS the one at which its ANGER is greatest, above 0");
        QuarrelWindows x = Due.square("h1,h2,h3,h4;013025031");
        Due.is("the greatest", x.house(0, 2), 2);
        Due.is("none: the RIVER", x.house(1, 2), -1);
        Due.is("an anger of 1", Due.square("h1,h2,h3;201").house(2, 2), 0);
        x = Due.square("h1,h2,h3;018029");
        enrage(x, 0, 1);
        Due.is("the greatest, now the lesser house", x.house(0, 2), 1);
        Due.promise(6, "of like ones the least");
        Due.is("of two", Due.square("h1,h2,h3,h4;034014023").house(0, 2), 1);
        Due.is("of three", Due.square("h1,h2,h3,h4;304324314").house(3, 2), 0);
        x = Due.square("h1,h2,h3;");
        enrage(x, 0, 2);
        enrage(x, 0, 1);
        Due.is("of two of 20", x.house(0, 2), 1);
        Due.promise(6, "where there is no WALL between them");
        x = Due.square("h1,h2,h3,h4;034014024");
        x.build(1, 0, true);
        Due.is("past a wall", x.house(0, 2), 2);
        x.build(0, 2, true);
        Due.is("past two", x.house(0, 2), 3);
        x.build(3, 0, true);
        Due.is("walls all round: the RIVER", x.house(0, 2), -1);
        Due.is("angers behind walls", x.house(0, 4), 12);
        x.build(2, 0, false);
        Due.is("a wall less", x.house(0, 2), 2);
        x.build(1, 3, true);
        Due.is("a wall between others", x.house(0, 2), 2);
    }

    private static void promise6ShamWindows() {
        Due.promise(6, "a SHAM one FRONTS the one at which it is least, above 0, likewise");
        QuarrelWindows x = Due.square("s1,h2,h3,h4;014022033");
        Due.is("the least", x.house(0, 2), 2);
        x.build(0, 2, true);
        Due.is("past a wall", x.house(0, 2), 3);
        x = Due.square("h2,h2,h3,s4;303312322");
        Due.is("of like ones the least", x.house(3, 2), 1);
        Due.is("not one at which it is 0", Due.square("s1,h2,h3;029").house(0, 2), 2);
        Due.is("an anger of 1", Due.square("s1,h2,h3;012021").house(0, 2), 2);
        Due.is("angry at none: the RIVER", Due.square("s1,s2,s3;").house(1, 2), -1);
        x = Due.square("s1,h2,h3;");
        enrage(x, 0, 2);
        Due.is("an anger of 20 alone", x.house(0, 2), 2);
        x.build(0, 2, true);
        Due.is("behind a wall: the RIVER", x.house(0, 2), -1);
    }

    private static void promise6WhoFrontsIt() {
        Due.promise(6, "3 which ones FRONT it, as bits");
        QuarrelWindows x = Due.square("h1,h2,h3,h4;012103311205");
        Due.is("0 is fronted by 1 and 2", x.house(0, 3), 6);
        Due.is("1 is fronted by 0 and 3", x.house(1, 3), 9);
        Due.is("none fronts 2", x.house(2, 3), 0);
        x = Due.square("h1,h2,h3,h4,h5,h6;051151251351451");
        Due.is("all others front 5", x.house(5, 3), 31);
        Due.is("none fronts 4", x.house(4, 3), 0);
        x = Due.square("h1,h2,h3,h4,h5,h6;101201301401501");
        Due.is("all others front 0", x.house(0, 3), 62);
        x.build(5, 0, true);
        Due.is("all but 5", x.house(0, 3), 30);
    }

    private static void promise6AllAngers() {
        Due.promise(6, "4 all its ANGERS together");
        QuarrelWindows x = Due.square("h1,h2,h3,h4,h5,h6;013025031201");
        Due.is("of 0", x.house(0, 4), 9);
        Due.is("not those at it", x.house(3, 4), 0);
        for (int other = 0; other < 5; other++) {
            enrage(x, 5, other);
        }
        Due.is("as many as can be", x.house(5, 4), 100);
    }

    private static void promise6Stares() {
        Due.promise(6, "5 whether it STARES: 1, 0");
        QuarrelWindows x = Due.square("h1,h2,h3,h4;012103311205");
        Due.is("0", x.house(0, 5), 1);
        Due.is("1", x.house(1, 5), 1);
        Due.is("2, which is not fronted", x.house(2, 5), 0);
        Due.is("3", x.house(3, 5), 0);
        x.build(0, 1, true);
        Due.is("0, behind a wall", x.house(0, 5), 0);
        Due.is("at the RIVER", Due.square("h1,h2,h3;").house(0, 5), 0);
        Due.is("in a ring of three", Due.square("h1,h2,h3;011121201").house(1, 5), 0);
        x = Due.square("h1,h2,h3,h4,h5,h6;011101231321451541");
        for (int house = 0; house < 6; house++) {
            Due.is("each of six: " + house, x.house(house, 5), 1);
        }
    }

    private static void promise6Rings() {
        Due.promise(6, "6 how many HOUSES its RING has: three, or more; 0: it is in none");
        QuarrelWindows x = Due.square("h1,h2,h3;012103");
        Due.is("two that stare are no ring", x.house(0, 6), 0);
        x = Due.square("h1,h2,h3,h4;011121201301");
        Due.is("ring of 0", x.house(0, 6), 3);
        Due.is("ring of 1", x.house(1, 6), 3);
        Due.is("ring of 2", x.house(2, 6), 3);
        Due.is("3 leads into it", x.house(3, 6), 0);
        x = Due.square("h1,h2,h3,h4,h5,h6;031521241411131251");
        Due.is("not round", x.house(0, 6), 0);
        Due.is("3 leads into 1, 3", x.house(3, 6), 0);
        x = Due.square("h1,h2,h3;011121");
        Due.is("ending at the RIVER", x.house(0, 6), 0);
        Due.is("at the RIVER", x.house(2, 6), 0);
        Due.is("leading into a stare", Due.square("h1,h2,h3;012101201").house(2, 6), 0);
    }

    private static void promise6GreatestRings() {
        QuarrelWindows x = Due.square("h1,h2,h3,h4;021311231101");
        Due.is("of four", x.house(3, 6), 4);
        x = Due.square("h1,h2,h3,h4,h5,h6;011121231341401501");
        Due.is("of five", x.house(4, 6), 5);
        Due.is("5 leads into it", x.house(5, 6), 0);
        x = Due.square("h1,h2,h3,h4,h5,h6;011121231341451501");
        for (int house = 0; house < 6; house++) {
            Due.is("of six: " + house, x.house(house, 6), 6);
        }
        x = Due.square("h1,h2,h3,h4,h5,h6;011121201341451531");
        Due.is("the first of two", x.house(1, 6), 3);
        Due.is("the other one", x.house(4, 6), 3);
        x.build(2, 0, true);
        Due.is("the first is ended by a wall", x.house(1, 6), 0);
        Due.is("the other one is not", x.house(5, 6), 3);
    }

    private static void promise6Lines() {
        Due.promise(6, "7 how many HOUSES its LINE has, with it, 8 the last one of it");
        QuarrelWindows x = Due.square("h1,h2,h3,h4,h5;031311124241");
        Due.is("five", x.house(0, 7), 5);
        Due.is("the last", x.house(0, 8), 4);
        Due.is("at the RIVER: it alone", x.house(4, 7), 1);
        Due.is("the last is itself", x.house(4, 8), 4);
        Due.promise(6, "as long as it comes to one where it was not yet");
        x = Due.square("h1,h2,h3;012101201");
        Due.is("from a stare", x.house(0, 7), 2);
        Due.is("the last", x.house(0, 8), 1);
        Due.is("into a stare", x.house(2, 7), 3);
        Due.is("the last", x.house(2, 8), 1);
        x = Due.square("h1,h2,h3,h4,h5,h6;011121201341451531");
        Due.is("a ring", x.house(4, 7), 3);
        Due.is("the last", x.house(4, 8), 3);
        x = Due.square("h1,h2,h3,h4,h5,h6;011121231341451501");
        Due.is("all six", x.house(2, 7), 6);
        Due.is("the last", x.house(2, 8), 1);
        x = Due.square("h1,h2,h3,h4,h5,h6;541431321211101");
        Due.is("all six to the RIVER", x.house(5, 7), 6);
        Due.is("the last", x.house(5, 8), 0);
    }

    private static void promise6TornAndCost() {
        Due.promise(6, "9 TORN, 10 COST: 0 at first");
        QuarrelWindows x = Due.square("h1,h2,h3,h4,h5,h6;011101231341421");
        for (int house = 0; house < 6; house++) {
            Due.is("torn of " + house, x.house(house, 9), 0);
            Due.is("cost of " + house, x.house(house, 10), 0);
        }
        Due.mornings(x, 30);
        for (int house = 0; house < 6; house++) {
            Due.is("torn of " + house + ", later", x.house(house, 9), house < 2 ? 30 : 0);
            Due.is("cost of " + house + ", later", x.house(house, 10), house < 2 || house == 5 ? 0 : 30);
        }
    }

    private static void promise6Refused() {
        Due.promise(6, "UNKNOWN");
        Due.is("house 2 of three", Refusals.three().house(2, 0), 3);
        Due.is("house 5 of six", Refusals.six().house(5, 1), 6);
        Refusals.unknownHouse("house", (y, house) -> y.house(house, 0));
        Due.promise(6, "OUTSIDE");
        Due.is("what 10", Refusals.three().house(2, 10), 0);
        Refusals.outside("house", (y, what) -> y.house(0, what), 11, -1, 12, 20);
        Due.promise(6, "UNKNOWN ahead of OUTSIDE");
        Refusals.unknownHouse("house", (y, house) -> y.house(house, 11));
        Refusals.unknownHouse("house", (y, house) -> y.house(house, -1));
    }

    private static void promise7Kinds() {
        Due.promise(7, "its own number; NONE: it is none such; all are HOUSES, a FEUD is a HOT one, too");
        QuarrelWindows x = Due.square("h1,t2,m3,s4,f5;");
        for (int house = 0; house < 5; house++) {
            for (int kind = 0; kind < 5; kind++) {
                boolean such = kind == 0 || kind == house || kind == 1 && house == 4;
                Due.is("as(" + house + ", " + kind + ")", x.as(house, kind), such ? house : -1);
            }
        }
        x = Due.square("f1,f2,f3,f4,f5,f6;");
        for (int house = 0; house < 6; house++) {
            Due.is("as(" + house + ", 1) of a feud", x.as(house, 1), house);
            Due.is("as(" + house + ", 2) of a feud", x.as(house, 2), -1);
        }
        x.tenant(3, 1);
        Due.is("a hot one is no feud", x.as(3, 4), -1);
    }

    private static void promise7Refused() {
        Due.promise(7, "UNKNOWN");
        Refusals.unknownHouse("as", (y, house) -> y.as(house, 0));
        Due.promise(7, "OUTSIDE");
        Refusals.outside("as", (y, kind) -> y.as(0, kind), 5, -1);
        Due.promise(7, "UNKNOWN ahead of OUTSIDE");
        Refusals.unknownHouse("as", (y, house) -> y.as(house, 5));
        Refusals.unknownHouse("as", (y, house) -> y.as(house, -1));
    }

    private static void promise8Angers() {
        Due.promise(8, "how ANGRY one is at another one: 0 to 20");
        QuarrelWindows x = Due.square("h1,h2,h3,h4;015233");
        Due.is("anger(0, 1)", x.anger(0, 1), 5);
        Due.is("anger(1, 0)", x.anger(1, 0), 0);
        Due.is("anger(2, 3)", x.anger(2, 3), 3);
        enrage(x, 3, 0);
        Due.is("anger(3, 0)", x.anger(3, 0), 20);
        Due.is("anger(0, 3)", x.anger(0, 3), 0);
        x.build(0, 3, true);
        Due.is("behind a wall", x.anger(3, 0), 20);
    }

    private static void promise8Refused() {
        Due.promise(8, "UNKNOWN: a, b, or they are the same");
        Due.is("anger(5, 3)", Refusals.six().anger(5, 3), 4);
        Refusals.unknownTwo("anger", (y, a, b) -> y.anger(a, b));
    }

    private static void promise9Lines() {
        Due.promise(9, "the so-manieth, from 0, HOUSE of the LINE; NONE: it has not so many");
        QuarrelWindows x = Due.square("h1,h2,h3,h4,h5;031311124241");
        int[] due = {0, 3, 1, 2, 4, -1};
        for (int k = 0; k < 6; k++) {
            Due.is("line(0, " + k + ")", x.line(0, k), due[k]);
        }
        Due.is("of one at the RIVER", x.line(4, 0), 4);
        Due.is("behind it", x.line(4, 1), -1);
        x = Due.square("h1,h2,h3;012101201");
        Due.is("into a stare", x.line(2, 2), 1);
        Due.is("not where it was", x.line(2, 3), -1);
        Due.is("from a stare", x.line(1, 1), 0);
        Due.is("not back to itself", x.line(1, 2), -1);
        Due.is("the sixth of three houses", x.line(2, 5), -1);
        x = Due.square("h1,h2,h3,h4,h5,h6;011121231341451501");
        Due.is("the first of six", x.line(2, 0), 2);
        Due.is("the sixth of six", x.line(2, 5), 1);
    }

    private static void promise9Refused() {
        Due.promise(9, "UNKNOWN: house");
        Refusals.unknownHouse("line", (y, house) -> y.line(house, 0));
        Due.promise(9, "OUTSIDE: k, 0 to 5");
        Due.is("line(0, 0)", Refusals.three().line(0, 0), 0);
        Due.is("line(0, 5)", Refusals.three().line(0, 5), -1);
        Refusals.outside("line", (y, k) -> y.line(0, k), 6, -1, 7);
        Due.refuses("line(5, 6) of six", Refusals::six, y -> y.line(5, 6), QuarrelWindows.OUTSIDE);
        Due.promise(9, "UNKNOWN ahead of OUTSIDE");
        Refusals.unknownHouse("line", (y, house) -> y.line(house, 6));
        Refusals.unknownHouse("line", (y, house) -> y.line(house, -1));
    }

    private static void promise10Walls() {
        Due.promise(10, "whether there is a WALL between two: 1, 0");
        QuarrelWindows x = Due.square("h1,h2,h3,h4,h5,h6;");
        Due.is("none at first", x.wall(1, 3), 0);
        x.build(3, 1, true);
        x.build(4, 5, true);
        for (int a = 0; a < 6; a++) {
            for (int b = 0; b < 6; b++) {
                boolean wall = Math.min(a, b) == 1 && Math.max(a, b) == 3 || Math.min(a, b) == 4 && Math.max(a, b) == 5;
                if (a != b) {
                    Due.is("wall(" + a + ", " + b + ")", x.wall(a, b), wall ? 1 : 0);
                }
            }
        }
        x.build(1, 3, false);
        Due.is("pulled down", x.wall(3, 1), 0);
    }

    private static void promise10Refused() {
        Due.promise(10, "UNKNOWN: a, b, or they are the same");
        Due.is("wall(5, 4)", Refusals.six().wall(5, 4), 0);
        Refusals.unknownTwo("wall", (y, a, b) -> y.wall(a, b));
    }
}
