/** Refusals that many calls have in common, and the squares that they are tried on. */
final class Refusals {
    static final int MIN = Integer.MIN_VALUE, MAX = Integer.MAX_VALUE;

    private Refusals() {
    }

    /** Three houses that have lived: with a wall, something seen, an image of what was, letters on the page. */
    static QuarrelWindows three() {
        QuarrelWindows x = Due.square("h1,t2,s3;012201021103");
        x.see(1, 0, 2);
        x.morning();
        x.image();
        x.quarrel(2, 1, 4);
        x.build(0, 2, true);
        x.peace(0, 2);
        x.see(0, 1, 1);
        x.morning();
        Due.type(x, "h1,");
        return x;
    }

    static QuarrelWindows six() {
        QuarrelWindows x = Due.square("h1,t2,s3,m4,f5,h6;012201121345454534");
        x.image();
        x.morning();
        x.see(4, 5, 2);
        return x;
    }

    interface OfHouse {
        int ask(QuarrelWindows x, int house);
    }

    interface OfTwo {
        int ask(QuarrelWindows x, int a, int b);
    }

    static void unknownHouse(String name, OfHouse call) {
        int[] unknown = {3, 4, 6, -1, MIN, MAX};
        for (int house : unknown) {
            refusesThree(name + " of " + house, y -> call.ask(y, house), QuarrelWindows.UNKNOWN);
        }
        Due.refuses(name + " of 6", Refusals::six, y -> call.ask(y, 6), QuarrelWindows.UNKNOWN);
        Due.refuses(name + " without a square", QuarrelWindows::new, y -> call.ask(y, 0), QuarrelWindows.UNKNOWN);
    }

    static void unknownTwo(String name, OfTwo call) {
        int[] unknown = {3, 4, 6, -1, -2, MIN, MAX};
        for (int no : unknown) {
            refusesThree(name + "(" + no + ", 0)", y -> call.ask(y, no, 0), QuarrelWindows.UNKNOWN);
            refusesThree(name + "(0, " + no + ")", y -> call.ask(y, 0, no), QuarrelWindows.UNKNOWN);
            refusesThree(name + " of " + no + " twice", y -> call.ask(y, no, no), QuarrelWindows.UNKNOWN);
        }
        for (int house = 0; house < 6; house++) {
            int same = house;
            Due.refuses(name + " of " + house + " twice", Refusals::six, y -> call.ask(y, same, same),
                QuarrelWindows.UNKNOWN);
        }
        Due.refuses(name + "(5, 6)", Refusals::six, y -> call.ask(y, 5, 6), QuarrelWindows.UNKNOWN);
        Due.refuses(name + "(6, 5)", Refusals::six, y -> call.ask(y, 6, 5), QuarrelWindows.UNKNOWN);
        Due.refuses(name + " without a square", QuarrelWindows::new, y -> call.ask(y, 0, 1), QuarrelWindows.UNKNOWN);
    }

    /** Each of these numbers is outside of what a call takes. */
    static void outside(String name, OfHouse call, int... numbers) {
        for (int number : numbers) {
            refusesThree(name + " by " + number, y -> call.ask(y, number), QuarrelWindows.OUTSIDE);
        }
        refusesThree(name + " by the least number", y -> call.ask(y, MIN), QuarrelWindows.OUTSIDE);
        refusesThree(name + " by the greatest number", y -> call.ask(y, MAX), QuarrelWindows.OUTSIDE);
    }

    static void refusesThree(String what, Due.Call call, int refusal) {
        Due.refuses(what, Refusals::three, call, refusal);
    }

    static void refusesNone(String what, Due.Call call, int refusal) {
        Due.refuses(what, QuarrelWindows::new, call, refusal);
    }
}
