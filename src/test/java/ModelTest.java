import java.util.Random;

/** Long runs of calls: the class and the model must answer alike. */
public final class ModelTest {
    private static final int MOST_CALLS = 512;
    private static final int[] ODD = {Integer.MIN_VALUE, Integer.MAX_VALUE, -2, -1, 6, 7, 8, 13, 16, 21, 64, 1000};

    private final Random random;
    private final QuarrelWindows real = new QuarrelWindows();
    private final Model model = new Model();
    private final int run;
    private int calls = 0;

    private ModelTest(int run) {
        this.run = run;
        random = new Random(1093L * run + 7);
    }

    public static void main(String[] args) {
        int runs = args.length > 0 ? Integer.parseInt(args[0]) : 240;
        for (int run = 0; run < runs; run++) {
            new ModelTest(run).run();
        }
        Due.end();
    }

    private void run() {
        // Of some runs the page is tried most, of some what would be, of the rest all alike.
        int bound = run % 4 == 0 ? 200 : MOST_CALLS;
        while (calls < bound - 45) {
            if (model.count(0) == 0 ? random.nextInt(5) > 0 : random.nextInt(90) == 0) {
                page();
            }
            call(random.nextInt(34));
            if (random.nextInt(6) == 0) {
                same("digest()", real.digest(), model.digest());
            }
        }
        same("digest() at the end", real.digest(), model.digest());
    }

    private void same(String call, long got, long want) {
        calls++;
        Due.is("run " + run + ", call " + calls + ", " + call, got, want);
    }

    /** A square comes letter by letter, now and then with a letter that is wrong, or none read. */
    private void page() {
        if (random.nextInt(3) > 0) {
            same("blank()", real.blank(), model.blank());
        }
        StringBuilder text = new StringBuilder(text());
        if (random.nextInt(4) == 0) {
            int place = random.nextInt(text.length());
            String others = "htmsfx0123456789,;HTMSF :/";
            text.setCharAt(place, others.charAt(random.nextInt(others.length())));
        }
        if (random.nextInt(8) == 0) {
            text.setLength(random.nextInt(text.length()));
        }
        for (char letter : text.toString().toCharArray()) {
            same("letter(" + (int) letter + ")", real.letter(letter), model.letter(letter));
        }
        same("fault() of " + text, real.fault(), model.fault());
        if (random.nextInt(10) > 0) {
            same("square() of " + text, real.square(), model.square());
        }
    }

    private String text() {
        int houses = 3 + random.nextInt(4);
        boolean alike = random.nextInt(4) == 0;
        char kind = "htmsf".charAt(random.nextInt(5));
        StringBuilder text = new StringBuilder();
        for (int house = 0; house < houses; house++) {
            text.append(house == 0 ? "" : ",").append(alike ? kind : "htmsf".charAt(random.nextInt(5)));
            text.append(random.nextInt(10));
        }
        text.append(';');
        int angers = random.nextInt(7);
        int steps = random.nextInt(3);
        for (int anger = 0; anger < angers; anger++) {
            // Steps all the same make rings; others are as they come.
            int a = steps > 0 ? anger % houses : random.nextInt(houses);
            int b = (a + (steps > 0 ? steps : 1 + random.nextInt(houses - 1))) % houses;
            text.append(a).append(b).append(1 + random.nextInt(random.nextBoolean() ? 9 : 3));
        }
        return text.toString();
    }

    /** Mostly a number of those below the bound, now and then an odd one. */
    private int some(int bound) {
        return random.nextInt(14) > 0 ? random.nextInt(Math.max(1, bound)) : ODD[random.nextInt(ODD.length)];
    }

    private int someHouse() {
        return random.nextInt(25) > 0 ? random.nextInt(Math.max(1, model.count(0))) : some(8);
    }

    /** What peaces are asked about: 0, 10 to 12, now and then another one. */
    private int some(int... whats) {
        return random.nextInt(12) > 0 ? whats[random.nextInt(whats.length)] : some(18);
    }

    private void call(int which) {
        int a = someHouse();
        int b = random.nextInt(6) > 0 ? (a + 1 + random.nextInt(5)) % Math.max(1, model.count(0)) : someHouse();
        String two = "(" + a + ", " + b + ")";
        if (which < 12) {
            deed(which, a, b, two);
        } else if (which < 22) {
            tell(which, a, b, two);
        } else {
            foretell(which, a, b);
        }
    }

    private void deed(int which, int a, int b, String two) {
        switch (which) {
            case 0, 1, 2 -> {
                int by = random.nextInt(8) > 0 ? 1 + random.nextInt(9) : some(12);
                same("quarrel" + two + " by " + by, real.quarrel(a, b, by), model.quarrel(a, b, by));
            }
            case 3 -> same("peace" + two, real.peace(a, b), model.peace(a, b));
            case 4 -> {
                boolean up = random.nextInt(3) > 0;
                same("build" + two + " " + up, real.build(a, b, up), model.build(a, b, up));
            }
            case 5 -> {
                int kind = some(5);
                if (random.nextInt(3) == 0) {
                    same("tenant(" + a + ", " + kind + ")", real.tenant(a, kind), model.tenant(a, kind));
                }
            }
            case 6 -> {
                if (random.nextInt(2) == 0) {
                    same("court()", real.court(), model.court());
                }
            }
            case 7, 8, 9 -> same("morning()", real.morning(), model.morning());
            case 10 -> same("image()", real.image(), model.image());
            default -> {
                if (random.nextInt(3) == 0) {
                    same("restore()", real.restore(), model.restore());
                }
            }
        }
    }

    private void tell(int which, int a, int b, String two) {
        int what = some(which == 16 ? 20 : which == 12 || which == 13 ? 11 : which == 14 ? 5 : 6);
        switch (which) {
            case 12, 13 -> same("house(" + a + ", " + what + ")", real.house(a, what), model.house(a, what));
            case 14 -> same("as(" + a + ", " + what + ")", real.as(a, what), model.as(a, what));
            case 15 -> same("line(" + a + ", " + what + ")", real.line(a, what), model.line(a, what));
            case 16 -> same("count(" + what + ")", real.count(what), model.count(what));
            case 17 -> same("anger" + two, real.anger(a, b), model.anger(a, b));
            case 18 -> same("wall" + two, real.wall(a, b), model.wall(a, b));
            case 19 -> {
                int code = some(127);
                same("letter(" + code + ")", real.letter(code), model.letter(code));
            }
            case 20 -> same("fault()", real.fault(), model.fault());
            default -> {
                if (random.nextInt(4) == 0) {
                    same("blank()", real.blank(), model.blank());
                } else {
                    same("square()", real.square(), model.square());
                }
            }
        }
    }

    private void foretell(int which, int a, int b) {
        int mornings = some(6);
        String call = "(" + a + ", " + b + ", " + mornings + ")";
        switch (which) {
            case 22, 23 -> {
                int what = some(0, 10, 11, 12, 13, 14, 15);
                same("settles(" + what + ")", real.settles(what), model.settles(what));
            }
            case 24 -> {
                int houses = some(1 << model.count(0));
                int what = some(0, 10, 11, 12);
                same("calm(" + houses + ", " + mornings + ", " + what + ")",
                    real.calm(houses, mornings, what), model.calm(houses, mornings, what));
            }
            case 25 -> {
                int for_ = random.nextInt(8) > 0 ? 1 + random.nextInt(random.nextInt(4) == 0 ? 3 : 2) : some(6);
                int what = some(0, 10, 11, 12);
                same("arbiter(" + for_ + ", " + what + ")", real.arbiter(for_, what), model.arbiter(for_, what));
            }
            case 26, 27 -> same("grudge" + call, real.grudge(a, b, mornings), model.grudge(a, b, mornings));
            case 28 -> {
                int what = some(0, 1);
                same("walls(" + mornings + ", " + what + ")", real.walls(mornings, what), model.walls(mornings, what));
            }
            case 29, 30 -> {
                // Mostly what will be so in truth, so that something can fit.
                int faces = random.nextInt(3) == 0 ? b : random.nextInt(3) > 0 ? model.house(a, 2) : -1;
                same("see(" + a + ", " + faces + ", " + mornings + ")",
                    real.see(a, faces, mornings), model.see(a, faces, mornings));
            }
            case 31, 32 -> {
                int what = some(0, 1, 2, 3, 3);
                same("span(" + a + ", " + b + ", " + what + ")", real.span(a, b, what), model.span(a, b, what));
                if (random.nextInt(12) == 0) {
                    same("forget()", real.forget(), model.forget());
                }
            }
            default -> {
                int for_ = random.nextInt(8) > 0 ? 1 + random.nextInt(40) : some(50);
                int seed = random.nextInt(8) > 0 ? random.nextInt(Integer.MAX_VALUE) : some(5);
                int what = some(0, 1, 2);
                same("summers(" + for_ + ", " + seed + ", " + what + ")",
                    real.summers(for_, seed, what), model.summers(for_, seed, what));
            }
        }
    }
}
