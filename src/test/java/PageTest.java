/** Promises 1 to 5: a new object, letter, blank, fault, square. */
public final class PageTest {
    private static final String DIGITS = "0123456789";

    public static void main(String[] args) {
        promise1NewObject();
        promise2Codes();
        promise2Full();
        promise3Blank();
        promise4EachCodeAtEachPlace();
        promise4FirstOfFaults();
        promise4NoFault();
        promise4ChangesNothing();
        promise5HowManyHouses();
        promise5PagesOfEachLength();
        promise5NoSquare();
        promise5Angers();
        promise5LikeAngers();
        promise5AnotherSquare();
        promise5Refused();
        Due.end();
    }

    private static void promise1NewObject() {
        Due.promise(1, "no SQUARE");
        QuarrelWindows x = new QuarrelWindows();
        for (int what = 0; what < 20; what++) {
            Due.is("count(" + what + ")", x.count(what), 0);
        }
        long h = 1093;
        for (int number = 0; number < 20; number++) {
            h = 31 * h;
        }
        Due.is("digest", x.digest(), h);
        Due.is("house", x.house(0, 0), QuarrelWindows.UNKNOWN);
        Due.is("as", x.as(0, 0), QuarrelWindows.UNKNOWN);
        Due.is("anger", x.anger(0, 1), QuarrelWindows.UNKNOWN);
        Due.is("line", x.line(0, 0), QuarrelWindows.UNKNOWN);
        Due.is("wall", x.wall(0, 1), QuarrelWindows.UNKNOWN);
        Due.is("quarrel", x.quarrel(0, 1, 1), QuarrelWindows.UNKNOWN);
        Due.is("peace", x.peace(0, 1), QuarrelWindows.UNKNOWN);
        Due.is("build", x.build(0, 1, true), QuarrelWindows.UNKNOWN);
        Due.is("tenant", x.tenant(0, 0), QuarrelWindows.UNKNOWN);
        Due.is("court", x.court(), QuarrelWindows.STATE);
        Due.is("morning", x.morning(), QuarrelWindows.STATE);
        Due.is("settles", x.settles(0), QuarrelWindows.STATE);
        Due.is("calm", x.calm(1, 0, 0), QuarrelWindows.OUTSIDE);
        Due.is("arbiter", x.arbiter(1, 0), QuarrelWindows.STATE);
        Due.is("grudge", x.grudge(0, 1, 0), QuarrelWindows.UNKNOWN);
        Due.is("walls", x.walls(0, 0), QuarrelWindows.STATE);
        Due.is("see", x.see(0, 1, 0), QuarrelWindows.UNKNOWN);
        Due.is("see the river", x.see(0, -1, 0), QuarrelWindows.UNKNOWN);
        Due.is("forget", x.forget(), 0);
        Due.is("span", x.span(0, 1, 0), QuarrelWindows.UNKNOWN);
        Due.is("summers", x.summers(1, 1, 0), QuarrelWindows.STATE);
        Due.is("image", x.image(), QuarrelWindows.STATE);
        Due.is("restore", x.restore(), QuarrelWindows.STATE);
        Due.is("blank", x.blank(), 0);
        Due.is("fault", x.fault(), 0);
        Due.is("square", x.square(), QuarrelWindows.STATE);
        Due.alike("behind all these", x, new QuarrelWindows());
    }

    private static void promise2Codes() {
        Due.promise(2, "OUTSIDE: code (1 to 126)");
        int[] wrong = {0, 127, -1, 128, 255, 65536 + 'h', Integer.MIN_VALUE, Integer.MAX_VALUE};
        for (int code : wrong) {
            Due.refuses("letter(" + code + ")", QuarrelWindows::new, y -> y.letter(code), QuarrelWindows.OUTSIDE);
            Due.refuses("letter(" + code + ") behind others", () -> Due.page("h1,"), y -> y.letter(code),
                QuarrelWindows.OUTSIDE);
        }
        Due.promise(2, "a letter comes behind THE PAGE, by its code: how many THE PAGE has");
        long h = 1093;
        QuarrelWindows x = new QuarrelWindows();
        for (int code = 1; code <= 126; code++) {
            int place = (code - 1) % 38;
            if (place == 0) {
                x = new QuarrelWindows();
                h = 1093;
            }
            Due.is("letter(" + code + ")", x.letter(code), place + 1);
            h = 31 * h + code;
            Due.is("letters", x.count(16), place + 1);
            Due.is("digest of them", x.digest(), digestWithLetters(h, place + 1));
        }
    }

    /** There is no square, so what count() tells is 0, but for how many letters there are. */
    private static long digestWithLetters(long digest, int letters) {
        long h = digest;
        for (int what = 0; what < 20; what++) {
            h = 31 * h + (what == 16 ? letters : 0);
        }
        return h;
    }

    private static void promise2Full() {
        Due.promise(2, "FULL: above 38");
        QuarrelWindows x = new QuarrelWindows();
        for (int many = 1; many <= 38; many++) {
            Due.is("letter " + many, x.letter('h'), many);
        }
        Due.is("letter 39", x.letter('h'), QuarrelWindows.FULL);
        Due.is("letter 39 once more", x.letter(126), QuarrelWindows.FULL);
        Due.is("letters", x.count(16), 38);
        String full = "h".repeat(38);
        Due.refuses("letter 39", () -> Due.page(full), y -> y.letter('t'), QuarrelWindows.FULL);
        Due.is("blank", x.blank(), 38);
        Due.is("a letter of the blank page", x.letter('t'), 1);
        Due.promise(2, "OUTSIDE ahead of FULL");
        Due.refuses("letter(0)", () -> Due.page(full), y -> y.letter(0), QuarrelWindows.OUTSIDE);
        Due.refuses("letter(127)", () -> Due.page(full), y -> y.letter(127), QuarrelWindows.OUTSIDE);
    }

    private static void promise3Blank() {
        Due.promise(3, "THE PAGE is empty: how many letters it had");
        QuarrelWindows x = Due.square("h1,h2,h3;012");
        Due.is("blank behind square", x.blank(), 0);
        Due.type(x, "h1x");
        Due.is("blank", x.blank(), 3);
        Due.is("letters", x.count(16), 0);
        Due.is("blank of an empty page", x.blank(), 0);
        Due.is("fault of an empty page", x.fault(), 0);
        Due.alike("the square stays", x, Due.square("h1,h2,h3;012"));
        x = Due.page("x".repeat(40));
        Due.is("blank of a full page", x.blank(), 38);
        Due.alike("behind it", x, new QuarrelWindows());
    }

    /** Of all codes those alone that are told fit behind these letters. */
    private static void fits(String ahead, String fitting) {
        for (int code = 1; code <= 126; code++) {
            QuarrelWindows x = Due.page(ahead);
            Due.is("fault behind " + ahead, x.fault(), ahead.length());
            x.letter(code);
            boolean fit = fitting.indexOf((char) code) >= 0;
            Due.is("fault of " + ahead + " and " + code, x.fault(), ahead.length() + (fit ? 1 : 0));
        }
    }

    private static void promise4EachCodeAtEachPlace() {
        Due.promise(4, "the first letter that no SQUARE has there, behind those ahead of it");
        String houses = "";
        for (int many = 1; many <= 6; many++) {
            fits(houses, "htmsf");
            fits(houses + "s", DIGITS);
            fits(houses + "t0", many < 3 ? "," : many < 6 ? ",;" : ";");
            houses += "m" + many + ",";
        }
        for (int many = 3; many <= 6; many++) {
            String square = "h0,t9,m5,s4,f3,h2,".substring(0, 3 * many - 1) + ";";
            String there = DIGITS.substring(0, many);
            fits(square, there);
            for (int house = 0; house < many; house++) {
                fits(square + house, there.replace("" + house, ""));
                fits(square + house + (house + 1) % many, "123456789");
            }
            for (int angers = 1; angers < 6; angers++) {
                square += "101";
                fits(square, there);
            }
            fits(square + "1", there.replace("1", ""));
            fits(square + "12", "123456789");
            fits(square + "129", "");
        }
    }

    private static void fault(String text, int place) {
        Due.is("fault of " + text, Due.page(text).fault(), place);
    }

    private static void promise4FirstOfFaults() {
        Due.promise(4, "the place, from 0, of the first one");
        fault("x", 0);
        fault("x1,x2,h3;033", 0);
        fault("hh,x1", 1);
        fault("h1;,", 2);
        fault("h1,h2;h3,", 5);
        fault("h1,h2,h3;033;", 10);
        fault("h1,h2,h3;0110", 13);
        fault("h1,h2,h3;011,0", 12);
        fault("h1,h2,h3,h4,h5,h6,h7;", 17);
        fault("h1,h2,h3,h4,h5,h6;666", 18);
        fault("h1,h2,h3;0110220110220110220", 27);
        fault("h1,h2,h3,h4,h5,h6;011022033044055123h", 36);
        fault("h1,h2,h3,h4,h5,h6;01102203304405512302", 36);
        fault("h".repeat(38), 1);
    }

    private static void promise4NoFault() {
        Due.promise(4, "how many letters it has, if there is none");
        fault("", 0);
        fault("h", 1);
        fault("h1,h2,h3", 8);
        fault("h1,h2,h3;", 9);
        fault("h1,h2,h3;01", 11);
        fault("h0,t9,m5,s0,f9;", 15);
        fault("h1,h2,h3;011022011022011022", 27);
        fault("h1,h2,h3,h4,h5,h6;011022033044055501", 36);
        Due.promise(4, "like ANGERS are no fault, above 20 neither");
        fault("h1,h2,h3;019019019019019019", 27);
    }

    private static void promise4ChangesNothing() {
        Due.promise(4, "it tells alone");
        QuarrelWindows x = Due.square("h1,h2,h3;012");
        QuarrelWindows y = Due.square("h1,h2,h3;012");
        Due.type(x, "h1,x");
        Due.type(y, "h1,x");
        Due.is("fault", x.fault(), 3);
        Due.is("fault once more", x.fault(), 3);
        Due.alike("behind it", x, y);
    }

    private static void square(String text, int houses) {
        QuarrelWindows x = Due.page(text);
        Due.is("square of " + text, x.square(), houses);
        Due.is("houses of " + text, x.count(0), Math.max(houses, 0));
        Due.is("letters behind square of " + text, x.count(16), houses < 0 ? text.length() : 0);
        Due.is("squares read behind " + text, x.count(17), houses < 0 ? 0 : 1);
    }

    private static void promise5HowManyHouses() {
        Due.promise(5, "how many HOUSES: three to six; THE PAGE is empty then");
        square("h1;", QuarrelWindows.STATE);
        square("h1,h2;", QuarrelWindows.STATE);
        square("h1,h2;011", QuarrelWindows.STATE);
        square("h1,h2,h3;", 3);
        square("t1,m2,s3,f4;", 4);
        square("t1,m2,s3,f4,h5;431", 5);
        square("t1,m2,s3,f4,h5,h6;011022033044055501", 6);
        square("h1,h2,h3,h4,h5,h6,h7;", QuarrelWindows.STATE);
        Due.promise(5, "each a letter, the KIND, and a digit, the VIEW, 0 to 9");
        QuarrelWindows x = Due.square("h1,t2,m3,s4,f5;");
        for (int house = 0; house < 5; house++) {
            Due.is("kind of " + house, x.house(house, 0), house);
            Due.is("view of " + house, x.house(house, 1), house + 1);
        }
        x = Due.square("h0,h9,h0;207");
        Due.is("a view of 0", x.house(0, 1), 0);
        Due.is("a view of 9", x.house(1, 1), 9);
        square("H1,h2,h3;", QuarrelWindows.STATE);
        square("h1,h2,a3;", QuarrelWindows.STATE);
        square("h1,h,h3;", QuarrelWindows.STATE);
        square("h1,h22,h3;", QuarrelWindows.STATE);
    }

    private static void promise5PagesOfEachLength() {
        Due.promise(5, "STATE: it is none");
        String least = "h1,h2,h3;011022011022011022";
        for (int length = 0; length <= least.length(); length++) {
            square(least.substring(0, length), length >= 9 && length % 3 == 0 ? 3 : QuarrelWindows.STATE);
        }
        String most = "h1,h2,h3,h4,h5,h6;011022033044055501";
        for (int length = 0; length <= most.length(); length++) {
            square(most.substring(0, length), length >= 18 && length % 3 == 0 ? 6 : QuarrelWindows.STATE);
        }
        square(least + "011", QuarrelWindows.STATE);
        square(most + "0", QuarrelWindows.STATE);
        square(most + "01", QuarrelWindows.STATE);
    }

    private static void promise5NoSquare() {
        Due.promise(5, "STATE: it is none, what is wrong standing last or first");
        square("x1,h2,h3;", QuarrelWindows.STATE);
        square("h1,h2,h3", QuarrelWindows.STATE);
        square("h1,h2,h3,", QuarrelWindows.STATE);
        square("h1,h2,h3,;", QuarrelWindows.STATE);
        square("h1,h2,h3;;", QuarrelWindows.STATE);
        square("h1,h2,h3;,", QuarrelWindows.STATE);
        square("h1,h2,h3; ", QuarrelWindows.STATE);
        square(" h1,h2,h3;", QuarrelWindows.STATE);
        square("h1,h2,h3;011,022", QuarrelWindows.STATE);
    }

    private static void promise5Angers() {
        Due.promise(5, "of which HOUSE, at which other one: both there are, not the same; by 1 to 9");
        square("h1,h2,h3;211", 3);
        square("h1,h2,h3;311", QuarrelWindows.STATE);
        square("h1,h2,h3;121", 3);
        square("h1,h2,h3;131", QuarrelWindows.STATE);
        square("h1,h2,h3,h4;311", 4);
        square("h1,h2,h3,h4,h5,h6;561", QuarrelWindows.STATE);
        square("h1,h2,h3,h4,h5,h6;651", QuarrelWindows.STATE);
        square("h1,h2,h3;111", QuarrelWindows.STATE);
        square("h1,h2,h3;010", QuarrelWindows.STATE);
        square("h1,h2,h3;011", 3);
        square("h1,h2,h3;019", 3);
        square("h1,h2,h3;01:", QuarrelWindows.STATE);
        QuarrelWindows x = Due.square("h0,h9,h0;207011");
        Due.is("a told anger", x.anger(2, 0), 7);
        Due.is("not the other way round", x.anger(0, 2), 0);
        Due.is("the least one", x.anger(0, 1), 1);
        Due.promise(5, "none to six ANGERS");
        Due.is("none", Due.square("h1,h2,h3;").count(1), 0);
        Due.is("six", Due.square("h1,h2,h3;011021101121201211").count(1), 6);
        square("h1,h2,h3;011021101121201211011", QuarrelWindows.STATE);
    }

    private static void promise5LikeAngers() {
        Due.promise(5, "of like two they are added up, 20 at most");
        QuarrelWindows x = Due.square("h1,h2,h3;013104014019");
        Due.is("of three, with another between", x.anger(0, 1), 16);
        Due.is("the other way is not like", x.anger(1, 0), 4);
        Due.is("9, 9 and 1", Due.square("h1,h2,h3;019019011").anger(0, 1), 19);
        Due.is("9, 9 and 2", Due.square("h1,h2,h3;019019012").anger(0, 1), 20);
        Due.is("9, 9 and 3", Due.square("h1,h2,h3;019019013").anger(0, 1), 20);
        Due.is("six times 9", Due.square("h1,h2,h3;129129129129129129").anger(1, 2), 20);
        x = Due.square("h1,h2,h3;019019019021");
        Due.is("an anger behind these", x.anger(0, 2), 1);
        Due.is("all together", x.count(2), 21);
        Due.is("they are told, not quarrels", x.count(11), 0);
    }

    private static QuarrelWindows lived() {
        QuarrelWindows x = Due.square("f1,f2,f3,f4;019129209");
        x.morning();
        x.peace(1, 2);
        x.quarrel(1, 0, 9);
        x.morning();
        x.build(2, 3, true);
        x.quarrel(0, 2, 3);
        x.peace(0, 2);
        x.see(0, 1, 1);
        x.calm(1, 0, 0);
        x.arbiter(1, 0);
        x.tenant(3, 2);
        x.quarrel(3, 0, 2);
        x.morning();
        x.image();
        return x;
    }

    private static void promise5AnotherSquare() {
        Due.promise(5, "another one is gone, with all that was");
        QuarrelWindows x = lived();
        Due.is("torn", x.count(13), 4);
        Due.is("costs", x.count(14), 3);
        Due.is("turned", x.count(10), 1);
        Due.type(x, "h1,h2,h3;");
        Due.is("another square", x.square(), 3);
        int[] due = {3, 0, 0, 3, 6, 0, 0, 3, 0, 0, 0, 0, 0, 0, 0, 0, 0, 2, 1, 1};
        for (int what = 0; what < 20; what++) {
            Due.is("count(" + what + ")", x.count(what), due[what]);
        }
        Due.is("house 3", x.house(3, 0), QuarrelWindows.UNKNOWN);
        Due.is("torn", x.house(0, 9) + x.house(1, 9), 0);
        Due.is("cost", x.house(0, 10) + x.house(2, 10), 0);
        Due.is("its image", x.restore(), QuarrelWindows.STATE);
        Due.is("its walls", x.wall(1, 2), 0);
        Due.is("span by nothing seen", x.span(0, 1, 0), 21);
        Due.type(x, "t4,m5,s6,h7;");
        Due.is("a greater square", x.square(), 4);
        Due.is("walls there", x.wall(2, 3), 0);
        Due.is("angers there", x.count(2), 0);
        Due.is("kinds there", x.house(2, 0), 3);
        x = lived();
        Due.type(x, "f1,f2,f3,f4;019129209");
        Due.is("the same text once more", x.square(), 4);
        Due.is("mornings", x.count(9), 0);
        Due.is("angers", x.count(2), 27);
        Due.is("the image of the square ahead of it", x.restore(), QuarrelWindows.STATE);
    }

    private static void promise5Refused() {
        Due.promise(5, "refused, it changes nothing");
        String[] texts = {"", "h1,h2,h3", "h1,h2,h3;01", "h1,h2;", "h1,h2,h3;014;", "h".repeat(38)};
        for (String text : texts) {
            Due.refuses("square of " + text, () -> {
                QuarrelWindows x = lived();
                Due.type(x, text);
                return x;
            }, y -> y.square(), QuarrelWindows.STATE);
        }
        QuarrelWindows x = lived();
        Due.type(x, "h1,h2,h3");
        Due.is("square", x.square(), QuarrelWindows.STATE);
        Due.is("the old square stays", x.count(0), 4);
        Due.is("the page stays", x.count(16), 8);
        Due.is("the image stays", x.restore(), 3);
        x.letter(';');
        Due.is("what was lacking", x.square(), 3);
    }
}
