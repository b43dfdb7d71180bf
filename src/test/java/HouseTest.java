/** Promises 6 to 10: house, as, anger, line, wall. */
public final class HouseTest {
    public static void main(String[] args) {
        windows();
        staresAndPriests();
        rings();
        lines();
        houseRefusals();
        kinds();
        angers();
        walls();
        Due.end();
    }

    private static void windows() {
        QuarrelWindows x = Due.square("h1,h2,h3,h4;013025031");
        Due.is("the greatest anger", x.house(0, 2), 2);
        Due.is("angry at none: the river", x.house(1, 2), -1);
        Due.is("all its angers", x.house(0, 4), 9);
        Due.is("not the angers at it", x.house(2, 4), 0);
        x = Due.square("h1,h2,h3,h4;034014024");
        Due.is("of like ones the least", x.house(0, 2), 1);
        x.build(1, 0, true);
        Due.is("past a wall", x.house(0, 2), 2);
        x.build(0, 2, true);
        x.build(3, 0, true);
        Due.is("walls all round: the river", x.house(0, 2), -1);
        Due.is("angers behind walls", x.house(0, 4), 12);
        x = Due.square("s1,h2,h3,h4;014022033");
        Due.is("a sham one fronts the least above 0", x.house(0, 2), 2);
        x.build(0, 2, true);
        Due.is("a sham one past a wall", x.house(0, 2), 3);
        x = Due.square("h2,h2,h3,s4;303312322");
        Due.is("a sham one, of like ones the least", x.house(3, 2), 1);
        Due.is("a sham one angry at none", Due.square("s1,s2,s3;").house(1, 2), -1);
    }

    private static void staresAndPriests() {
        QuarrelWindows x = Due.square("h1,h2,h3,h4;012103311205");
        Due.is("0 fronts 1", x.house(0, 2), 1);
        Due.is("1 fronts 0", x.house(1, 2), 0);
        Due.is("0 is fronted by 1 and 2", x.house(0, 3), 6);
        Due.is("1 is fronted by 0 and 3", x.house(1, 3), 9);
        Due.is("none fronts 2", x.house(2, 3), 0);
        Due.is("0 stares", x.house(0, 5), 1);
        Due.is("1 stares", x.house(1, 5), 1);
        Due.is("2 does not stare", x.house(2, 5), 0);
        Due.is("3 does not stare", x.house(3, 5), 0);
        Due.is("two that stare are no ring", x.house(0, 6), 0);
        x.build(0, 1, true);
        Due.is("a wall ends a stare", x.house(0, 5), 0);
    }

    private static void rings() {
        QuarrelWindows x = Due.square("h1,h2,h3,h4;011121201301");
        Due.is("ring of 0", x.house(0, 6), 3);
        Due.is("ring of 1", x.house(1, 6), 3);
        Due.is("ring of 2", x.house(2, 6), 3);
        Due.is("3 leads into the ring, it is not in it", x.house(3, 6), 0);
        x = Due.square("h1,h2,h3,h4,h5,h6;031521241411131251");
        Due.is("not round: ring of 0", x.house(0, 6), 0);
        x = Due.square("h1,h2,h3,h4;021311231101");
        Due.is("ring of four", x.house(3, 6), 4);
        x = Due.square("h1,h2,h3,h4,h5,h6;011121231341451501");
        Due.is("ring of six", x.house(5, 6), 6);
        x = Due.square("h1,h2,h3,h4,h5,h6;011121201341451531");
        Due.is("the first of two rings", x.house(1, 6), 3);
        Due.is("the other one", x.house(4, 6), 3);
        Due.is("line of a ring", x.house(4, 7), 3);
        Due.is("last of its line", x.house(4, 8), 3);
    }

    private static void lines() {
        QuarrelWindows x = Due.square("h1,h2,h3,h4,h5;031311124241");
        int[] due = {0, 3, 1, 2, 4, -1};
        for (int k = 0; k < 6; k++) {
            Due.is("line(0, " + k + ")", x.line(0, k), due[k]);
        }
        Due.is("its length", x.house(0, 7), 5);
        Due.is("its last one", x.house(0, 8), 4);
        Due.is("line of one at the river", x.line(4, 0), 4);
        Due.is("behind it", x.line(4, 1), -1);
        Due.is("its length is 1", x.house(4, 7), 1);
        Due.is("its last one is itself", x.house(4, 8), 4);
        x = Due.square("h1,h2,h3;012101201");
        Due.is("into a stare", x.line(2, 2), 1);
        Due.is("as long as it was not there yet", x.line(2, 3), -1);
        Due.is("its length", x.house(2, 7), 3);
        Due.is("its last one", x.house(2, 8), 1);
        Due.is("from the stare", x.house(0, 7), 2);
        Due.is("its last one", x.house(0, 8), 1);
        x = Due.square("h1,h2,h3,h4,h5,h6;011121231341451501");
        Due.is("the sixth of a line", x.line(2, 5), 1);
        Due.is("all six", x.house(2, 7), 6);
        Due.refuses("line of none", x, y -> y.line(6, 0), QuarrelWindows.UNKNOWN);
        Due.refuses("line of -1", x, y -> y.line(-1, 6), QuarrelWindows.UNKNOWN);
        Due.refuses("line(0, -1)", x, y -> y.line(0, -1), QuarrelWindows.OUTSIDE);
        Due.refuses("line(0, 6)", x, y -> y.line(0, 6), QuarrelWindows.OUTSIDE);
        Due.is("k up to 5 in a small square", Due.square("h1,h2,h3;").line(0, 5), -1);
        Due.is("k above 5 in a small square", Due.square("h1,h2,h3;").line(0, 6), QuarrelWindows.OUTSIDE);
    }

    private static void houseRefusals() {
        QuarrelWindows x = Due.square("h1,h2,h3;012");
        Due.refuses("house(3, 0)", x, y -> y.house(3, 0), QuarrelWindows.UNKNOWN);
        Due.refuses("house(-1, 0)", x, y -> y.house(-1, 0), QuarrelWindows.UNKNOWN);
        Due.refuses("house(3, 11)", x, y -> y.house(3, 11), QuarrelWindows.UNKNOWN);
        Due.refuses("house(0, 11)", x, y -> y.house(0, 11), QuarrelWindows.OUTSIDE);
        Due.refuses("house(0, -1)", x, y -> y.house(0, -1), QuarrelWindows.OUTSIDE);
        Due.refuses("house(MIN)", x, y -> y.house(Integer.MIN_VALUE, 0), QuarrelWindows.UNKNOWN);
    }

    private static void kinds() {
        QuarrelWindows x = Due.square("h1,t2,m3,s4,f5;");
        for (int house = 0; house < 5; house++) {
            for (int kind = 0; kind < 5; kind++) {
                boolean such = kind == 0 || kind == house || kind == 1 && house == 4;
                Due.is("as(" + house + ", " + kind + ")", x.as(house, kind), such ? house : -1);
            }
        }
        Due.refuses("as(5, 0)", x, y -> y.as(5, 0), QuarrelWindows.UNKNOWN);
        Due.refuses("as(-1, 5)", x, y -> y.as(-1, 5), QuarrelWindows.UNKNOWN);
        Due.refuses("as(0, 5)", x, y -> y.as(0, 5), QuarrelWindows.OUTSIDE);
        Due.refuses("as(0, -1)", x, y -> y.as(0, -1), QuarrelWindows.OUTSIDE);
    }

    private static void angers() {
        QuarrelWindows x = Due.square("h1,h2,h3,h4;015233");
        Due.is("anger(0, 1)", x.anger(0, 1), 5);
        Due.is("anger(1, 0)", x.anger(1, 0), 0);
        Due.is("anger(2, 3)", x.anger(2, 3), 3);
        Due.refuses("anger(1, 1)", x, y -> y.anger(1, 1), QuarrelWindows.UNKNOWN);
        Due.refuses("anger(4, 0)", x, y -> y.anger(4, 0), QuarrelWindows.UNKNOWN);
        Due.refuses("anger(0, 4)", x, y -> y.anger(0, 4), QuarrelWindows.UNKNOWN);
        Due.refuses("anger(-1, 0)", x, y -> y.anger(-1, 0), QuarrelWindows.UNKNOWN);
        Due.refuses("anger(0, -1)", x, y -> y.anger(0, -1), QuarrelWindows.UNKNOWN);
    }

    private static void walls() {
        QuarrelWindows x = Due.square("h1,h2,h3,h4;");
        Due.is("no wall at first", x.wall(1, 3), 0);
        x.build(3, 1, true);
        Due.is("wall(1, 3)", x.wall(1, 3), 1);
        Due.is("wall(3, 1)", x.wall(3, 1), 1);
        Due.is("wall(1, 2)", x.wall(1, 2), 0);
        Due.refuses("wall(1, 1)", x, y -> y.wall(1, 1), QuarrelWindows.UNKNOWN);
        Due.refuses("wall(4, 1)", x, y -> y.wall(4, 1), QuarrelWindows.UNKNOWN);
        Due.refuses("wall(1, 4)", x, y -> y.wall(1, 4), QuarrelWindows.UNKNOWN);
        Due.refuses("wall(-1, 1)", x, y -> y.wall(-1, 1), QuarrelWindows.UNKNOWN);
    }
}
