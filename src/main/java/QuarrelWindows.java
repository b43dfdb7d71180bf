import java.util.Arrays;

/** A square of houses whose windows turn toward a quarrel; the promises are those of DOC.md. */
public final class QuarrelWindows {
    public static final int NONE = -1, UNKNOWN = -101, OUTSIDE = -102, STATE = -103, FULL = -104;

    private static final int HOUSE = 0, HOT = 1, MILD = 2, SHAM = 3, FEUD = 4;
    private static final int KINDS = 5;
    private static final String KIND_LETTERS = "htmsf";

    private static final int LEAST_HOUSES = 3, MOST_HOUSES = 6;
    private static final int CELLS = MOST_HOUSES * MOST_HOUSES;
    private static final int MOST_ANGER = 20, GREATEST_QUARREL = 9;
    private static final int MOST_ANGERS_TOLD = 6;
    private static final int LAST_LETTER = 126, MOST_LETTERS = 38;
    private static final int LAST_MORNING = 999;
    private static final int FARTHEST = 5;
    private static final int MOST_PEACES = 3, MOST_ARBITED = 3;
    private static final int MOST_SEEN = 8;
    private static final int LONGEST_SUMMER = 40;
    private static final int MOST_CALMS = 20, MOST_ARBITERS = 12;
    private static final int HOUSE_TELLS = 11, COUNTS = 20;

    // All pairs of houses, by number: the lesser one of each, and the greater one.
    private static final int PAIRS = 15;
    private static final int[] LESSER = {0, 0, 0, 0, 0, 1, 1, 1, 1, 2, 2, 2, 3, 3, 4};
    private static final int[] GREATER = {1, 2, 3, 4, 5, 2, 3, 4, 5, 3, 4, 5, 4, 5, 5};

    private final Page page;
    private final Square now;
    private final Square kept;
    private final Sights seen;
    private final Sights keptSeen;
    private final Outlook outlook;
    private final Peacemaker peacemaker;
    private final Guess guess;
    private boolean hasImage;
    private int squaresRead;
    private int calmsDone;
    private int arbitersDone;

    public QuarrelWindows() {
        page = new Page();
        now = new Square();
        kept = new Square();
        seen = new Sights();
        keptSeen = new Sights();
        outlook = new Outlook();
        peacemaker = new Peacemaker();
        guess = new Guess();
    }

    // ---- the square

    public int letter(int code) {
        if (code < 1 || code > LAST_LETTER) {
            return OUTSIDE;
        }
        if (page.isFull()) {
            return FULL;
        }
        return page.add(code);
    }

    public int blank() {
        return page.clear();
    }

    public int fault() {
        return page.faultPlace();
    }

    public int square() {
        if (!page.isSquare()) {
            return STATE;
        }
        now.readFrom(page);
        page.clear();
        seen.clear();
        hasImage = false;
        squaresRead++;
        return now.size();
    }

    public int house(int house, int what) {
        if (!now.isHouse(house)) {
            return UNKNOWN;
        }
        switch (what) {
            case 0:
                return now.kindOf(house);
            case 1:
                return now.viewOf(house);
            case 2:
                return now.frontOf(house);
            case 3:
                return now.frontersOf(house);
            case 4:
                return now.angersOf(house);
            case 5:
                return now.isStaring(house) ? 1 : 0;
            case 6:
                return now.ringSize(house);
            case 7:
                return now.lineLength(house);
            case 8:
                return now.lineEnd(house);
            case 9:
                return now.tornOf(house);
            case 10:
                return now.costOf(house);
            default:
                return OUTSIDE;
        }
    }

    public int as(int house, int kind) {
        if (!now.isHouse(house)) {
            return UNKNOWN;
        }
        if (!isKind(kind)) {
            return OUTSIDE;
        }
        return isSuch(now.kindOf(house), kind) ? house : NONE;
    }

    public int anger(int a, int b) {
        return now.areTwo(a, b) ? now.angerAt(a, b) : UNKNOWN;
    }

    public int line(int house, int k) {
        if (!now.isHouse(house)) {
            return UNKNOWN;
        }
        if (k < 0 || k >= MOST_HOUSES) {
            return OUTSIDE;
        }
        return now.onLine(house, k);
    }

    public int wall(int a, int b) {
        return now.areTwo(a, b) ? now.wallBetween(a, b) : UNKNOWN;
    }

    // ---- quarrels, peaces, mornings

    public int quarrel(int a, int b, int by) {
        if (!now.areTwo(a, b)) {
            return UNKNOWN;
        }
        if (by < 1 || by > GREATEST_QUARREL) {
            return OUTSIDE;
        }
        now.provoke(a, b, by);
        now.quarrels++;
        return now.angerAt(a, b);
    }

    public int peace(int a, int b) {
        if (!now.areTwo(a, b)) {
            return UNKNOWN;
        }
        int both = now.angerAt(a, b) + now.angerAt(b, a);
        if (both == 0) {
            return STATE;
        }
        now.reconcile(a, b);
        now.peaces++;
        return both;
    }

    public int build(int a, int b, boolean up) {
        if (!now.areTwo(a, b)) {
            return UNKNOWN;
        }
        int was = now.wallBetween(a, b);
        now.setWall(a, b, up ? 1 : 0);
        return was;
    }

    public int tenant(int house, int kind) {
        if (!now.isHouse(house)) {
            return UNKNOWN;
        }
        if (!isKind(kind)) {
            return OUTSIDE;
        }
        int was = now.kindOf(house);
        now.moveIn(house, kind);
        return was;
    }

    public int court() {
        int house = now.leastInRing();
        return house == NONE ? STATE : now.endRing(house);
    }

    public int morning() {
        if (!now.stands()) {
            return STATE;
        }
        if (now.mornings >= LAST_MORNING) {
            return FULL;
        }
        return now.liveMorning();
    }

    // ---- what would be

    public int settles(int what) {
        if (what != 0 && (what < 10 || what > 15)) {
            return OUTSIDE;
        }
        if (!now.stands()) {
            return STATE;
        }
        outlook.settle(now);
        return outlook.settled(what);
    }

    public int calm(int houses, int mornings, int what) {
        if (houses < 1 || houses >= 1 << now.size()) {
            return OUTSIDE;
        }
        if (!isSoon(mornings) || !isPeaceTell(what)) {
            return OUTSIDE;
        }
        if (calmsDone >= MOST_CALMS) {
            return STATE;
        }
        calmsDone++;
        peacemaker.findCalm(now, houses, mornings);
        return peacemaker.found(what);
    }

    public int arbiter(int mornings, int what) {
        if (mornings < 1 || mornings > MOST_ARBITED || !isPeaceTell(what)) {
            return OUTSIDE;
        }
        if (!now.stands() || arbitersDone >= MOST_ARBITERS) {
            return STATE;
        }
        arbitersDone++;
        peacemaker.arbitrate(now, mornings);
        return peacemaker.found(what);
    }

    public int grudge(int a, int b, int mornings) {
        if (!now.areTwo(a, b)) {
            return UNKNOWN;
        }
        if (!isSoon(mornings)) {
            return OUTSIDE;
        }
        return outlook.leastGrudge(now, a, b, mornings);
    }

    public int walls(int mornings, int what) {
        if (!isSoon(mornings) || what < 0 || what > 1) {
            return OUTSIDE;
        }
        if (!now.stands()) {
            return STATE;
        }
        outlook.findWall(now, mornings);
        return outlook.walled(what);
    }

    // ---- what is seen

    public int see(int house, int faces, int mornings) {
        if (!now.isHouse(house)) {
            return UNKNOWN;
        }
        if (faces != NONE && !now.areTwo(house, faces)) {
            return UNKNOWN;
        }
        if (!isSoon(mornings)) {
            return OUTSIDE;
        }
        if (seen.isFull()) {
            return FULL;
        }
        return seen.add(house, faces, mornings);
    }

    public int forget() {
        return seen.clear();
    }

    public int span(int a, int b, int what) {
        if (!now.areTwo(a, b)) {
            return UNKNOWN;
        }
        if (what < 0 || what > 3) {
            return OUTSIDE;
        }
        guess.find(now, seen, a, b);
        return guess.found(what);
    }

    public int summers(int mornings, int seed, int what) {
        if (mornings < 1 || mornings > LONGEST_SUMMER || seed < 0) {
            return OUTSIDE;
        }
        if (what < 0 || what > 2) {
            return OUTSIDE;
        }
        if (!now.stands()) {
            return STATE;
        }
        outlook.summer(now, mornings, seed);
        return outlook.summered(what);
    }

    // ---- what is told of all

    public int image() {
        if (!now.stands()) {
            return STATE;
        }
        kept.copyFrom(now);
        keptSeen.copyFrom(seen);
        hasImage = true;
        return now.mornings;
    }

    public int restore() {
        if (!hasImage) {
            return STATE;
        }
        now.copyFrom(kept);
        seen.copyFrom(keptSeen);
        return now.mornings;
    }

    public int count(int what) {
        switch (what) {
            case 0:
                return now.size();
            case 1:
                return now.countAngers();
            case 2:
                return now.sumAngers();
            case 3:
                return now.countAtRiver();
            case 4:
                return now.worthOfViews();
            case 5:
                return now.countStares();
            case 6:
                return now.countRings();
            case 7:
                return now.countPriests();
            case 8:
                return now.countWalls();
            case 9:
                return now.mornings;
            case 10:
                return now.turned;
            case 11:
                return now.quarrels;
            case 12:
                return now.peaces;
            case 13:
                return now.sumTorn();
            case 14:
                return now.sumCosts();
            case 15:
                return seen.size();
            case 16:
                return page.size();
            case 17:
                return squaresRead;
            case 18:
                return calmsDone;
            case 19:
                return arbitersDone;
            default:
                return OUTSIDE;
        }
    }

    public long digest() {
        long h = 1093;
        for (int house = 0; house < now.size(); house++) {
            h = mixHouse(h, house);
        }
        if (now.stands()) {
            h = mixWouldBe(h);
        }
        for (int place = 0; place < page.size(); place++) {
            h = mix(h, page.letterAt(place));
        }
        for (int what = 0; what < COUNTS; what++) {
            h = mix(h, count(what));
        }
        return h;
    }

    private long mixHouse(long digest, int house) {
        long h = digest;
        for (int what = 0; what < HOUSE_TELLS; what++) {
            h = mix(h, house(house, what));
        }
        for (int other = 0; other < now.size(); other++) {
            if (other != house) {
                h = mix(h, now.angerAt(house, other));
                h = mix(h, now.wallBetween(house, other));
            }
        }
        return h;
    }

    private long mixWouldBe(long digest) {
        outlook.settle(now);
        long h = mix(digest, outlook.settled(0));
        for (int what = 10; what <= 15; what++) {
            h = mix(h, outlook.settled(what));
        }
        outlook.findWall(now, 1);
        h = mix(h, outlook.walled(0));
        h = mix(h, outlook.walled(1));
        h = mix(h, outlook.leastGrudge(now, 0, 1, 2));
        guess.find(now, seen, 1, 0);
        for (int what = 0; what <= 2; what++) {
            h = mix(h, guess.found(what));
        }
        return h;
    }

    private static long mix(long h, int number) {
        return 31 * h + number;
    }

    private static boolean isKind(int kind) {
        return kind >= 0 && kind < KINDS;
    }

    /** Whether a house of one kind can be taken as one of another. */
    private static boolean isSuch(int own, int kind) {
        return kind == HOUSE || kind == own || kind == HOT && own == FEUD;
    }

    private static boolean isSoon(int mornings) {
        return mornings >= 0 && mornings <= FARTHEST;
    }

    private static boolean isPeaceTell(int what) {
        return what == 0 || what >= 10 && what <= 12;
    }

    private static int pairNumber(int pair) {
        if (pair < 0 || pair >= PAIRS) {
            return NONE;
        }
        return 10 * LESSER[pair] + GREATER[pair];
    }

    /** The letters that have come, and the square that they are a text of. */
    private static final class Page {
        private final int[] letters = new int[MOST_LETTERS];
        private int length;

        boolean isFull() {
            return length >= MOST_LETTERS;
        }

        int size() {
            return length;
        }

        int add(int letter) {
            if (!isFull()) {
                letters[length] = letter;
                length++;
            }
            return length;
        }

        int clear() {
            int had = length;
            length = 0;
            return had;
        }

        int faultPlace() {
            int end = NONE;
            for (int place = 0; place < length; place++) {
                boolean fits = end == NONE ? fitsHouses(place) : fitsAngers(place, end);
                if (!fits) {
                    return place;
                }
                if (letters[place] == ';') {
                    end = place;
                }
            }
            return length;
        }

        boolean isSquare() {
            int end = housesEnd();
            return faultPlace() == length && end != NONE && (length - end - 1) % 3 == 0;
        }

        /** Each house and the sign behind it take three places, so the place tells what is due there. */
        private boolean fitsHouses(int place) {
            int letter = letters[place];
            switch (place % 3) {
                case 0:
                    return kindNamed(letter) != NONE;
                case 1:
                    return digitOf(letter) != NONE;
                default:
                    return mayFollow(letter, place / 3 + 1);
            }
        }

        private static boolean mayFollow(int letter, int houses) {
            return letter == ',' && houses < MOST_HOUSES || letter == ';' && houses >= LEAST_HOUSES;
        }

        private boolean fitsAngers(int place, int end) {
            int behind = place - end - 1;
            int digit = digitOf(letters[place]);
            if (digit == NONE || behind >= 3 * MOST_ANGERS_TOLD) {
                return false;
            }
            int houses = end / 3 + 1;
            switch (behind % 3) {
                case 0:
                    return digit < houses;
                case 1:
                    return digit < houses && letterAt(place) != letterAt(place - 1);
                default:
                    return digit > 0;
            }
        }

        private int housesEnd() {
            for (int place = 0; place < length; place++) {
                if (letters[place] == ';') {
                    return place;
                }
            }
            return NONE;
        }

        // What follows is asked of a page that is a square.

        int countHouses() {
            return Math.min(housesEnd() / 3 + 1, MOST_HOUSES);
        }

        int kindOf(int house) {
            return Math.max(kindNamed(letterAt(3 * house)), HOUSE);
        }

        int viewOf(int house) {
            return digitOf(letterAt(3 * house + 1));
        }

        int countTold() {
            return (length - housesEnd() - 1) / 3;
        }

        /** A digit of an anger that is told: 0 whose it is, 1 at whom, 2 by how much. */
        int told(int anger, int digit) {
            return digitOf(letterAt(housesEnd() + 1 + 3 * anger + digit));
        }

        int letterAt(int place) {
            return place >= 0 && place < length ? letters[place] : 0;
        }

        private static int kindNamed(int letter) {
            return KIND_LETTERS.indexOf((char) letter);
        }

        private static int digitOf(int letter) {
            return letter >= '0' && letter <= '9' ? letter - '0' : NONE;
        }
    }

    /** A square as it is or would be; its windows are turned anew with every change. */
    private static final class Square {
        private final int[] kinds = new int[MOST_HOUSES];
        private final int[] views = new int[MOST_HOUSES];
        private final int[] fronts = new int[MOST_HOUSES];
        private final int[] torn = new int[MOST_HOUSES];
        private final int[] costs = new int[MOST_HOUSES];
        private final int[] angers = new int[CELLS];
        private final int[] walls = new int[CELLS];
        private int houses;
        private int mornings;
        private int turned;
        private int quarrels;
        private int peaces;

        void readFrom(Page page) {
            houses = page.countHouses();
            Arrays.fill(torn, 0);
            Arrays.fill(costs, 0);
            Arrays.fill(angers, 0);
            Arrays.fill(walls, 0);
            mornings = 0;
            turned = 0;
            quarrels = 0;
            peaces = 0;
            for (int house = 0; house < houses; house++) {
                kinds[house] = page.kindOf(house);
                views[house] = page.viewOf(house);
            }
            for (int told = 0; told < page.countTold(); told++) {
                int a = page.told(told, 0);
                int b = page.told(told, 1);
                if (areTwo(a, b)) {
                    provoke(a, b, page.told(told, 2));
                }
            }
            turnAll();
        }

        void copyFrom(Square other) {
            System.arraycopy(other.kinds, 0, kinds, 0, MOST_HOUSES);
            System.arraycopy(other.views, 0, views, 0, MOST_HOUSES);
            System.arraycopy(other.fronts, 0, fronts, 0, MOST_HOUSES);
            System.arraycopy(other.torn, 0, torn, 0, MOST_HOUSES);
            System.arraycopy(other.costs, 0, costs, 0, MOST_HOUSES);
            System.arraycopy(other.angers, 0, angers, 0, CELLS);
            System.arraycopy(other.walls, 0, walls, 0, CELLS);
            houses = other.houses;
            mornings = other.mornings;
            turned = other.turned;
            quarrels = other.quarrels;
            peaces = other.peaces;
        }

        boolean stands() {
            return houses > 0;
        }

        int size() {
            return houses;
        }

        boolean isHouse(int house) {
            return house >= 0 && house < houses;
        }

        boolean areTwo(int a, int b) {
            return isHouse(a) && isHouse(b) && a != b;
        }

        // What is told of one house; each is asked of a house that there is.

        int kindOf(int house) {
            return kinds[house];
        }

        int viewOf(int house) {
            return views[house];
        }

        int frontOf(int house) {
            return fronts[house];
        }

        int tornOf(int house) {
            return torn[house];
        }

        int costOf(int house) {
            return costs[house];
        }

        int frontersOf(int house) {
            int bits = 0;
            for (int other = 0; other < houses; other++) {
                if (fronts[other] == house) {
                    bits |= 1 << other;
                }
            }
            return bits;
        }

        int angersOf(int house) {
            int sum = 0;
            for (int other = 0; other < houses; other++) {
                sum += angers[cell(house, other)];
            }
            return sum;
        }

        boolean isStaring(int house) {
            int front = fronts[house];
            return isHouse(front) && fronts[front] == house;
        }

        int ringSize(int house) {
            int at = house;
            for (int steps = 1; steps <= houses; steps++) {
                at = fronts[at];
                if (!isHouse(at)) {
                    return 0;
                }
                if (at == house) {
                    return steps >= 3 ? steps : 0;
                }
            }
            return 0;
        }

        int onLine(int house, int k) {
            int at = house;
            int been = 0;
            for (int step = 0; step < houses; step++) {
                if (!isHouse(at) || (been >> at & 1) == 1) {
                    return NONE;
                }
                if (step == k) {
                    return at;
                }
                been |= 1 << at;
                at = fronts[at];
            }
            return NONE;
        }

        int lineLength(int house) {
            int length = 0;
            for (int k = 0; k < houses; k++) {
                if (onLine(house, k) != NONE) {
                    length = k + 1;
                }
            }
            return length;
        }

        int lineEnd(int house) {
            return onLine(house, lineLength(house) - 1);
        }

        int angerAt(int a, int b) {
            return angers[cell(a, b)];
        }

        int wallBetween(int a, int b) {
            return walls[cell(a, b)];
        }

        // What is told of all houses.

        int countAngers() {
            int count = 0;
            for (int cell = 0; cell < CELLS; cell++) {
                if (angers[cell] > 0) {
                    count++;
                }
            }
            return count;
        }

        int sumAngers() {
            int sum = 0;
            for (int house = 0; house < houses; house++) {
                sum += angersOf(house);
            }
            return sum;
        }

        int countAtRiver() {
            int count = 0;
            for (int house = 0; house < houses; house++) {
                if (fronts[house] == NONE) {
                    count++;
                }
            }
            return count;
        }

        int worthOfViews() {
            int worth = 0;
            for (int house = 0; house < houses; house++) {
                if (fronts[house] == NONE) {
                    worth += views[house];
                }
            }
            return worth;
        }

        int countStares() {
            int count = 0;
            for (int house = 0; house < houses; house++) {
                if (isStaring(house) && house < fronts[house]) {
                    count++;
                }
            }
            return count;
        }

        int countRings() {
            int count = 0;
            int counted = 0;
            for (int house = 0; house < houses; house++) {
                if ((counted >> house & 1) == 0 && ringSize(house) > 0) {
                    counted |= ringBits(house);
                    count++;
                }
            }
            return count;
        }

        int countPriests() {
            int count = 0;
            for (int house = 0; house < houses; house++) {
                if (frontersOf(house) == 0) {
                    count++;
                }
            }
            return count;
        }

        int countWalls() {
            int count = 0;
            for (int pair = 0; pair < PAIRS; pair++) {
                count += walls[cell(LESSER[pair], GREATER[pair])];
            }
            return count;
        }

        int sumTorn() {
            int sum = 0;
            for (int house = 0; house < houses; house++) {
                sum += torn[house];
            }
            return sum;
        }

        int sumCosts() {
            int sum = 0;
            for (int house = 0; house < houses; house++) {
                sum += costs[house];
            }
            return sum;
        }

        int leastInRing() {
            for (int house = 0; house < houses; house++) {
                if (ringSize(house) > 0) {
                    return house;
                }
            }
            return NONE;
        }

        // What changes.

        void provoke(int a, int b, int by) {
            setAnger(a, b, angers[cell(a, b)] + by);
        }

        void setAnger(int a, int b, int anger) {
            angers[cell(a, b)] = bounded(anger);
            fronts[a] = pickFront(a);
        }

        void reconcile(int a, int b) {
            setAnger(a, b, 0);
            setAnger(b, a, 0);
        }

        void setWall(int a, int b, int wall) {
            walls[cell(a, b)] = wall;
            walls[cell(b, a)] = wall;
            fronts[a] = pickFront(a);
            fronts[b] = pickFront(b);
        }

        void moveIn(int house, int kind) {
            kinds[house] = kind;
            for (int other = 0; other < houses; other++) {
                angers[cell(house, other)] = 0;
            }
            fronts[house] = NONE;
        }

        /** Ends the ring that a house is in; tells how many houses it had. */
        int endRing(int house) {
            int size = ringSize(house);
            int ring = ringBits(house);
            for (int member = 0; member < houses; member++) {
                int front = fronts[member];
                if ((ring >> member & 1) == 1 && isHouse(front)) {
                    setAnger(member, front, 0);
                }
            }
            return size;
        }

        int liveMorning() {
            for (int house = 0; house < houses; house++) {
                if (isStaring(house)) {
                    torn[house]++;
                }
                if (ringSize(house) > 0) {
                    costs[house]++;
                }
            }
            mornings++;
            int turns = changeAngers();
            turned += turns;
            return turns;
        }

        /** What a morning does to angers and windows alone: all that matters of one that would be. */
        int changeAngers() {
            for (int a = 0; a < houses; a++) {
                for (int b = 0; b < houses; b++) {
                    if (a != b) {
                        angers[cell(a, b)] = bounded(angers[cell(a, b)] + change(a, b));
                    }
                }
            }
            return turnAll();
        }

        void letPass(int mornings) {
            for (int morning = 0; morning < mornings; morning++) {
                changeAngers();
            }
        }

        private int change(int a, int b) {
            if (kinds[a] == MILD) {
                return -2;
            }
            boolean fronted = fronts[b] == a;
            int back = fronted ? 1 : 0;
            if (fronts[a] != b) {
                return back - 1;
            }
            return back + growth(kinds[a], fronted);
        }

        /** By how much more one is angry at the one it fronts. */
        private static int growth(int kind, boolean staring) {
            switch (kind) {
                case HOT:
                    return 1;
                case FEUD:
                    return staring ? 2 : 1;
                default:
                    return 0;
            }
        }

        private int turnAll() {
            int turns = 0;
            for (int house = 0; house < houses; house++) {
                int front = pickFront(house);
                if (front != fronts[house]) {
                    turns++;
                }
                fronts[house] = front;
            }
            return turns;
        }

        private int pickFront(int house) {
            int row = house * MOST_HOUSES;
            int picked = NONE;
            int pickedAnger = 0;
            for (int other = 0; other < houses; other++) {
                int anger = angers[row + other];
                boolean ahead = kinds[house] == SHAM ? anger < pickedAnger : anger > pickedAnger;
                if (anger > 0 && walls[row + other] == 0 && (picked == NONE || ahead)) {
                    picked = other;
                    pickedAnger = anger;
                }
            }
            return picked;
        }

        private int ringBits(int house) {
            int bits = 0;
            int at = house;
            for (int steps = 0; steps < houses && isHouse(at); steps++) {
                bits |= 1 << at;
                at = fronts[at];
            }
            return bits;
        }

        private static int bounded(int anger) {
            return Math.max(0, Math.min(MOST_ANGER, anger));
        }

        private static int cell(int a, int b) {
            return a * MOST_HOUSES + b;
        }
    }

    /** What is seen: which house fronts what, behind how many mornings. */
    private static final class Sights {
        private final int[] houses = new int[MOST_SEEN];
        private final int[] faces = new int[MOST_SEEN];
        private final int[] mornings = new int[MOST_SEEN];
        private int length;

        boolean isFull() {
            return length >= MOST_SEEN;
        }

        int size() {
            return length;
        }

        int add(int house, int facing, int morning) {
            if (!isFull()) {
                houses[length] = house;
                faces[length] = facing;
                mornings[length] = morning;
                length++;
            }
            return length;
        }

        int clear() {
            int had = length;
            length = 0;
            return had;
        }

        void copyFrom(Sights other) {
            System.arraycopy(other.houses, 0, houses, 0, MOST_SEEN);
            System.arraycopy(other.faces, 0, faces, 0, MOST_SEEN);
            System.arraycopy(other.mornings, 0, mornings, 0, MOST_SEEN);
            length = other.length;
        }

        /** Whether all is as seen, where the rows tell which one each house fronts behind so many mornings. */
        boolean isSo(int[][] fronts) {
            for (int sight = 0; sight < length; sight++) {
                if (fronts[mornings[sight]][houses[sight]] != faces[sight]) {
                    return false;
                }
            }
            return true;
        }
    }

    /** Where it settles, how great a quarrel must be, which wall, and summers. */
    private static final class Outlook {
        private static final int LATEST = 40, QUIET = 20;
        private static final long FACTOR = 1103515245L, STEP = 12345L, SEEDS = 1L << 31;
        private static final int DRAW_OVER = 65536, QUARREL_DRAW = 4;

        private final Square trial = new Square();
        private int settledBehind;
        private int wallPair;
        private int wallRiver;
        private int summerStares;
        private int summerTurns;
        private int seed;

        void settle(Square now) {
            trial.copyFrom(now);
            settledBehind = NONE;
            int lastTurn = 0;
            for (int morning = 1; morning <= LATEST + QUIET; morning++) {
                if (trial.changeAngers() > 0) {
                    lastTurn = morning;
                }
                if (morning - lastTurn == QUIET) {
                    settledBehind = lastTurn;
                    return;
                }
            }
        }

        /** No window has turned since it settled, so the trial still fronts as it did then. */
        int settled(int what) {
            if (settledBehind == NONE || what == 0) {
                return settledBehind;
            }
            int house = what - 10;
            return trial.isHouse(house) ? trial.frontOf(house) : NONE;
        }

        int leastGrudge(Square now, int a, int b, int mornings) {
            for (int by = 1; by <= GREATEST_QUARREL; by++) {
                trial.copyFrom(now);
                trial.provoke(a, b, by);
                trial.letPass(mornings);
                if (trial.frontOf(a) == b) {
                    return by;
                }
            }
            return NONE;
        }

        void findWall(Square now, int mornings) {
            trial.copyFrom(now);
            trial.letPass(mornings);
            wallPair = NONE;
            wallRiver = trial.countAtRiver();
            for (int pair = 0; pair < PAIRS; pair++) {
                int a = LESSER[pair];
                int b = GREATER[pair];
                if (now.areTwo(a, b) && now.wallBetween(a, b) == 0) {
                    trial.copyFrom(now);
                    trial.setWall(a, b, 1);
                    trial.letPass(mornings);
                    weighWall(pair, trial.countAtRiver());
                }
            }
        }

        private void weighWall(int pair, int atRiver) {
            if (atRiver > wallRiver) {
                wallPair = pair;
                wallRiver = atRiver;
            }
        }

        int walled(int what) {
            if (wallPair == NONE || what == 0) {
                return pairNumber(wallPair);
            }
            return wallRiver;
        }

        void summer(Square now, int mornings, int firstSeed) {
            trial.copyFrom(now);
            summerStares = 0;
            summerTurns = 0;
            seed = firstSeed;
            for (int morning = 0; morning < mornings; morning++) {
                int a = draw(now.size());
                int b = draw(now.size());
                int by = draw(QUARREL_DRAW);
                if (trial.areTwo(a, b)) {
                    trial.provoke(a, b, by);
                }
                summerTurns += trial.changeAngers();
                summerStares += trial.countStares();
            }
        }

        private int draw(int of) {
            seed = (int) ((FACTOR * seed + STEP) % SEEDS);
            return of > 0 ? seed / DRAW_OVER % of : 0;
        }

        int summered(int what) {
            switch (what) {
                case 0:
                    return summerStares;
                case 1:
                    return summerTurns;
                default:
                    return seed;
            }
        }
    }

    /** Looks for the peaces that calm houses, and for those that an arbiter makes. */
    private static final class Peacemaker {
        private static final int MORE_THAN_ANY = 99;

        // What is behind none, one, two and three of the peaces that are tried.
        private final Square start = new Square();
        private final Square first = new Square();
        private final Square second = new Square();
        private final Square third = new Square();
        private final int[] tried = new int[MOST_PEACES];
        private final int[] best = new int[MOST_PEACES];
        private int fewest;
        private int wanted;
        private int mornings;

        void findCalm(Square now, int houses, int mornings) {
            wanted = houses;
            this.mornings = mornings;
            fewest = NONE;
            Arrays.fill(best, NONE);
            for (int few = 0; few <= MOST_PEACES; few++) {
                Arrays.fill(tried, NONE);
                start.copyFrom(now);
                if (calms(this, few, 0, 0)) {
                    fewest = few;
                    System.arraycopy(tried, 0, best, 0, MOST_PEACES);
                    return;
                }
            }
        }

        /** Tries all rows of so few pairs that go on from a depth, by numbers, until one calms. */
        private static boolean calms(Peacemaker maker, int few, int depth, int from) {
            Square square = maker.behind(depth);
            if (depth >= few || depth >= MOST_PEACES) {
                square.letPass(maker.mornings);
                return maker.isCalm(square);
            }
            Square next = maker.behind(depth + 1);
            for (int pair = from; pair < PAIRS; pair++) {
                if (makesPeace(square, next, pair)) {
                    maker.tried[depth] = pair;
                    if (calms(maker, few, depth + 1, pair + 1)) {
                        return true;
                    }
                }
            }
            return false;
        }

        private boolean isCalm(Square square) {
            for (int house = 0; house < square.size(); house++) {
                if ((wanted >> house & 1) == 1 && square.frontOf(house) != NONE) {
                    return false;
                }
            }
            return true;
        }

        void arbitrate(Square now, int mornings) {
            this.mornings = mornings;
            fewest = MORE_THAN_ANY;
            Arrays.fill(best, NONE);
            Arrays.fill(tried, NONE);
            start.copyFrom(now);
            arbits(this, 0);
        }

        private static void arbits(Peacemaker maker, int depth) {
            Square square = maker.behind(depth);
            if (depth >= maker.mornings || depth >= MOST_ARBITED) {
                maker.weigh(square.countStares() + square.countRings());
                return;
            }
            Square next = maker.behind(depth + 1);
            for (int pair = NONE; pair < PAIRS && maker.fewest > 0; pair++) {
                if (makesPeace(square, next, pair)) {
                    maker.tried[depth] = pair;
                    next.changeAngers();
                    arbits(maker, depth + 1);
                }
            }
        }

        private void weigh(int left) {
            if (left < fewest) {
                fewest = left;
                System.arraycopy(tried, 0, best, 0, MOST_PEACES);
            }
        }

        /**
         * Makes the next square the one with a peace more (NONE: with none). Where two are not angry it
         * would be as without a peace, which is fewer and comes ahead, so that is not tried.
         */
        private static boolean makesPeace(Square square, Square next, int pair) {
            if (pair < 0 || pair >= PAIRS) {
                next.copyFrom(square);
                return true;
            }
            int a = LESSER[pair];
            int b = GREATER[pair];
            if (!square.areTwo(a, b) || square.angerAt(a, b) + square.angerAt(b, a) == 0) {
                return false;
            }
            next.copyFrom(square);
            next.reconcile(a, b);
            return true;
        }

        private Square behind(int peaces) {
            switch (peaces) {
                case 0:
                    return start;
                case 1:
                    return first;
                case 2:
                    return second;
                default:
                    return third;
            }
        }

        int found(int what) {
            if (what == 0) {
                return fewest;
            }
            int at = what - 10;
            return at >= 0 && at < MOST_PEACES ? pairNumber(best[at]) : NONE;
        }
    }

    /** How great an anger can be, by what is seen, and when to look next. */
    private static final class Guess {
        private static final int LOOKS = FARTHEST + 1;

        private final Square trial = new Square();
        private final int[][] fronts = new int[LOOKS][MOST_HOUSES];
        // How many angers are left, by the look and by where the house fronts then (0: the river).
        private final int[][] left = new int[LOOKS][MOST_HOUSES + 1];
        private int fitting;
        private int least;
        private int greatest;

        void find(Square now, Sights seen, int a, int b) {
            fitting = 0;
            least = NONE;
            greatest = NONE;
            for (int look = 0; look < LOOKS; look++) {
                Arrays.fill(left[look], 0);
            }
            for (int anger = 0; anger <= MOST_ANGER; anger++) {
                trial.copyFrom(now);
                trial.setAnger(a, b, anger);
                foresee();
                if (seen.isSo(fronts)) {
                    take(a, anger);
                }
            }
        }

        private void foresee() {
            for (int look = 0; look < LOOKS; look++) {
                for (int house = 0; house < trial.size(); house++) {
                    fronts[look][house] = trial.frontOf(house);
                }
                trial.changeAngers();
            }
        }

        private void take(int house, int anger) {
            fitting++;
            if (least == NONE) {
                least = anger;
            }
            greatest = anger;
            for (int look = 0; look < LOOKS; look++) {
                left[look][fronts[look][house] + 1]++;
            }
        }

        int found(int what) {
            switch (what) {
                case 0:
                    return fitting;
                case 1:
                    return least;
                case 2:
                    return greatest;
                default:
                    return bestLook();
            }
        }

        private int bestLook() {
            int best = NONE;
            int fewest = MOST_ANGER + 2;
            for (int look = 0; look < LOOKS && fitting > 0; look++) {
                int worst = worstOf(left[look]);
                if (worst < fewest) {
                    fewest = worst;
                    best = look;
                }
            }
            return best;
        }

        private static int worstOf(int[] counts) {
            int worst = 0;
            for (int count : counts) {
                worst = Math.max(worst, count);
            }
            return worst;
        }
    }
}
