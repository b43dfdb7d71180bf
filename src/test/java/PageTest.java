/** Promises 1 to 5: a new object, letter, blank, fault, square. */
public final class PageTest {
    public static void main(String[] args) {
        newObject();
        letters();
        blanks();
        faults();
        squares();
        likeAngers();
        anotherSquare();
        Due.end();
    }

    private static void newObject() {
        QuarrelWindows x = new QuarrelWindows();
        for (int what = 0; what < 20; what++) {
            Due.is("count(" + what + ") of a new object", x.count(what), 0);
        }
        long h = 1093;
        for (int number = 0; number < 20; number++) {
            h = 31 * h;
        }
        Due.is("digest of a new object", x.digest(), h);
        Due.is("house", x.house(0, 0), QuarrelWindows.UNKNOWN);
        Due.is("as", x.as(0, 0), QuarrelWindows.UNKNOWN);
        Due.is("anger", x.anger(0, 1), QuarrelWindows.UNKNOWN);
        Due.is("line", x.line(0, 0), QuarrelWindows.UNKNOWN);
        Due.is("wall", x.wall(0, 1), QuarrelWindows.UNKNOWN);
        Due.is("quarrel", x.quarrel(0, 1, 1), QuarrelWindows.UNKNOWN);
        Due.is("peace", x.peace(0, 1), QuarrelWindows.UNKNOWN);
        Due.is("build", x.build(0, 1, true), QuarrelWindows.UNKNOWN);
        Due.is("tenant", x.tenant(0, 0), QuarrelWindows.UNKNOWN);
        Due.is("court", x.court(), QuarrelWindows.STATE);
        Due.is("morning", x.morning(), QuarrelWindows.STATE);
        Due.is("settles", x.settles(0), QuarrelWindows.STATE);
        Due.is("calm", x.calm(1, 0, 0), QuarrelWindows.OUTSIDE);
        Due.is("arbiter", x.arbiter(1, 0), QuarrelWindows.STATE);
        Due.is("grudge", x.grudge(0, 1, 0), QuarrelWindows.UNKNOWN);
        Due.is("walls", x.walls(0, 0), QuarrelWindows.STATE);
        Due.is("see", x.see(0, 1, 0), QuarrelWindows.UNKNOWN);
        Due.is("see the river", x.see(0, -1, 0), QuarrelWindows.UNKNOWN);
        Due.is("forget", x.forget(), 0);
        Due.is("span", x.span(0, 1, 0), QuarrelWindows.UNKNOWN);
        Due.is("summers", x.summers(1, 1, 0), QuarrelWindows.STATE);
        Due.is("image", x.image(), QuarrelWindows.STATE);
        Due.is("restore", x.restore(), QuarrelWindows.STATE);
        Due.is("blank", x.blank(), 0);
        Due.is("fault", x.fault(), 0);
        Due.is("square", x.square(), QuarrelWindows.STATE);
        Due.is("digest behind refusals", x.digest(), h);
    }

    private static void letters() {
        QuarrelWindows x = new QuarrelWindows();
        Due.is("letter(0)", x.letter(0), QuarrelWindows.OUTSIDE);
        Due.is("letter(127)", x.letter(127), QuarrelWindows.OUTSIDE);
        Due.is("letter(-1)", x.letter(-1), QuarrelWindows.OUTSIDE);
        Due.is("letter(MIN)", x.letter(Integer.MIN_VALUE), QuarrelWindows.OUTSIDE);
        Due.is("letter(MAX)", x.letter(Integer.MAX_VALUE), QuarrelWindows.OUTSIDE);
        Due.is("a code that is h in its low bits", x.letter(65536 + 'h'), QuarrelWindows.OUTSIDE);
        Due.is("letters behind refusals", x.count(16), 0);
        Due.is("letter(1)", x.letter(1), 1);
        Due.is("letter(126)", x.letter(126), 2);
        for (int many = 3; many <= 38; many++) {
            Due.is("letter " + many, x.letter('h'), many);
        }
        Due.refuses("letter 39", x, y -> y.letter('h'), QuarrelWindows.FULL);
        Due.refuses("letter(0) of a full page", x, y -> y.letter(0), QuarrelWindows.OUTSIDE);
        Due.is("letters", x.count(16), 38);
        Due.is("blank", x.blank(), 38);
        Due.is("letter on a blank page", x.letter('t'), 1);
    }

    private static void blanks() {
        QuarrelWindows x = Due.square("h1,h2,h3;012");
        Due.is("blank behind square", x.blank(), 0);
        Due.type(x, "h1x");
        Due.is("blank", x.blank(), 3);
        Due.is("blank again", x.blank(), 0);
        Due.is("letters", x.count(16), 0);
        Due.is("fault of a blank page", x.fault(), 0);
        Due.is("the square stays", x.anger(0, 1), 2);
    }

    private static void fault(String text, int place) {
        QuarrelWindows x = new QuarrelWindows();
        Due.type(x, text);
        Due.is("fault of " + text, x.fault(), place);
        Due.is("letters behind fault of " + text, x.count(16), text.length());
    }

    private static void faults() {
        fault("h", 1);
        fault("x", 0);
        fault("H1", 0);
        fault(" h1", 0);
        fault("0", 0);
        fault(";", 0);
        fault("hh", 1);
        fault("h;", 1);
        fault("h1h", 2);
        fault("h1,,", 3);
        fault("h1;", 2);
        fault("h1,h2;", 5);
        fault("h1,h2,h3;", 9);
        fault("h0,t9,m5,s0,f9;", 15);
        fault("h1,h2,h3,h4,h5,h6;", 18);
        fault("h1,h2,h3,h4,h5,h6,", 17);
        fault("h1,h2,h3,h4,h5,h6,h7;", 17);
        fault("h1,h2,h3;;", 9);
        fault("h1,h2,h3;h", 9);
        fault("h1,h2,h3;2", 10);
        fault("h1,h2,h3;3", 9);
        fault("h1,h2,h3,h4;3", 13);
        fault("h1,h2,h3,h4,h5,h6;5", 19);
        fault("h1,h2,h3,h4,h5,h6;6", 18);
        fault("h1,h2,h3;03", 10);
        fault("h1,h2,h3;00", 10);
        fault("h1,h2,h3;22", 10);
        fault("h1,h2,h3;010", 11);
        fault("h1,h2,h3;01:", 11);
        fault("h1,h2,h3;019", 12);
        fault("h1,h2,h3;011,", 12);
        fault("h1,h2,h3;011 ", 12);
        fault("h1,h2,h3;0110", 13);
        fault("h1,h2,h3;01100", 13);
        fault("h1,h2,h3;011022011022011022", 27);
        fault("h1,h2,h3;0110220110220110220", 27);
        fault("h1,h2,h3,h4,h5,h6;011022033044055123h", 36);
        fault("h1,h2,h3,h4,h5,h6;01102203304405512302", 36);
        fault("x1,h2,h3;033", 0);
        fault("h1,h2,h3;033;", 10);
    }

    private static void square(String text, int houses) {
        QuarrelWindows x = new QuarrelWindows();
        Due.type(x, text);
        Due.is("square of " + text, x.square(), houses);
        Due.is("houses of " + text, x.count(0), Math.max(houses, 0));
        Due.is("letters behind square of " + text, x.count(16), houses < 0 ? text.length() : 0);
        Due.is("squares read behind " + text, x.count(17), houses < 0 ? 0 : 1);
    }

    private static void squares() {
        square("h1,h2,h3;", 3);
        square("t1,m2,s3,f4;", 4);
        square("t1,m2,s3,f4,h5;431", 5);
        square("t1,m2,s3,f4,h5,h6;011022033044055501", 6);
        square("", QuarrelWindows.STATE);
        square("h1,h2,h3", QuarrelWindows.STATE);
        square("h1,h2;", QuarrelWindows.STATE);
        square("h1,h2,h3;0", QuarrelWindows.STATE);
        square("h1,h2,h3;01", QuarrelWindows.STATE);
        square("h1,h2,h3;0112", QuarrelWindows.STATE);
        square("h1,h2,h3;010", QuarrelWindows.STATE);
        square("h1,h2,h3;111", QuarrelWindows.STATE);
        square("h1,h2,h3;031", QuarrelWindows.STATE);
        square("h1,h2,h3;011022011022011022011", QuarrelWindows.STATE);
        square("h1,h2,h3,h4,h5,h6,h7;", QuarrelWindows.STATE);
        QuarrelWindows x = Due.square("h1,t2,m3,s4,f5;");
        for (int house = 0; house < 5; house++) {
            Due.is("kind of " + house, x.house(house, 0), house);
            Due.is("view of " + house, x.house(house, 1), house + 1);
        }
        x = Due.square("h0,h9,h0;207");
        Due.is("a told anger", x.anger(2, 0), 7);
        Due.is("not the other way round", x.anger(0, 2), 0);
        Due.is("a view of 9", x.house(1, 1), 9);
    }

    private static void likeAngers() {
        QuarrelWindows x = Due.square("h1,h2,h3;013104014019");
        Due.is("of like ones added up", x.anger(0, 1), 16);
        Due.is("the other way is not like", x.anger(1, 0), 4);
        x = Due.square("h1,h2,h3;019019019021");
        Due.is("of like ones 20 at most", x.anger(0, 1), 20);
        Due.is("an anger behind these", x.anger(0, 2), 1);
    }

    private static void anotherSquare() {
        QuarrelWindows x = Due.square("f1,f2,f3,f4;019129209");
        x.morning();
        x.peace(1, 2);
        x.quarrel(1, 0, 9);
        x.morning();
        Due.is("torn", x.count(13), 2);
        Due.is("costs", x.count(14), 3);
        x.build(2, 3, true);
        x.quarrel(0, 2, 3);
        x.peace(0, 2);
        x.see(0, 1, 1);
        x.calm(1, 0, 0);
        x.arbiter(1, 0);
        x.image();
        Due.type(x, "h1,h2,h3");
        Due.refuses("square of no square", x, y -> y.square(), QuarrelWindows.STATE);
        Due.is("the old square stays", x.count(0), 4);
        Due.is("the page stays", x.count(16), 8);
        Due.is("the image stays", x.restore(), 2);
        Due.type(x, ";");
        Due.is("another square", x.square(), 3);
        int[] due = {3, 0, 0, 3, 6, 0, 0, 3, 0, 0, 0, 0, 0, 0, 0, 0, 0, 2, 1, 1};
        for (int what = 0; what < 20; what++) {
            Due.is("count(" + what + ") of another square", x.count(what), due[what]);
        }
        Due.is("house 3 is gone", x.house(3, 0), QuarrelWindows.UNKNOWN);
        Due.is("nothing is torn", x.house(0, 9) + x.house(1, 9), 0);
        Due.is("no cost", x.house(0, 10) + x.house(2, 10), 0);
        Due.is("its image is gone", x.restore(), QuarrelWindows.STATE);
        Due.is("its walls are gone", x.wall(1, 2), 0);
        Due.type(x, "t4,m5,s6,h7;");
        Due.is("a greater square", x.square(), 4);
        Due.is("its walls are gone there, too", x.wall(2, 3), 0);
        Due.is("its angers are gone", x.count(2), 0);
        Due.is("its kinds", x.house(2, 0), 3);
    }
}
