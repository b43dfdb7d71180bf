import java.util.ArrayList;
import java.util.List;
import java.util.function.Function;
import java.util.regex.Matcher;
import java.util.regex.Pattern;

/**
 * The document written a second time, for the tests alone: as plainly as can be, each answer worked out
 * anew from kinds, angers and walls, everything that would be tried one by one, nothing left out.
 */
final class Model {
    private static final int NONE = -1, UNKNOWN = -101, OUTSIDE = -102, STATE = -103, FULL = -104;

    private final StringBuilder page = new StringBuilder();
    private Town town = new Town(0);
    private Town kept;
    private int read;
    private int calms;
    private int arbiters;

    /** What an image keeps. */
    private static final class Town {
        final int n;
        final int[] kind;
        final int[] view;
        final int[][] anger;
        final boolean[][] wall;
        final int[] torn;
        final int[] cost;
        int mornings;
        int turned;
        int quarrels;
        int peaces;
        List<int[]> seen = new ArrayList<>();

        Town(int n) {
            this.n = n;
            kind = new int[n];
            view = new int[n];
            anger = new int[n][n];
            wall = new boolean[n][n];
            torn = new int[n];
            cost = new int[n];
        }

        Town copy() {
            Town copy = new Town(n);
            for (int a = 0; a < n; a++) {
                copy.kind[a] = kind[a];
                copy.view[a] = view[a];
                copy.torn[a] = torn[a];
                copy.cost[a] = cost[a];
                for (int b = 0; b < n; b++) {
                    copy.anger[a][b] = anger[a][b];
                    copy.wall[a][b] = wall[a][b];
                }
            }
            copy.mornings = mornings;
            copy.turned = turned;
            copy.quarrels = quarrels;
            copy.peaces = peaces;
            copy.seen = new ArrayList<>(seen);
            return copy;
        }

        int front(int a) {
            int best = NONE;
            // From the last one to the first, so that of like ones the least is left.
            for (int b = n - 1; b >= 0; b--) {
                if (b == a || wall[a][b] || anger[a][b] == 0) {
                    continue;
                }
                if (best == NONE || kind[a] != 3 && anger[a][b] >= anger[a][best]
                        || kind[a] == 3 && anger[a][b] <= anger[a][best]) {
                    best = b;
                }
            }
            return best;
        }

        int[] fronts() {
            int[] fronts = new int[n];
            for (int a = 0; a < n; a++) {
                fronts[a] = front(a);
            }
            return fronts;
        }

        boolean stares(int a) {
            int b = front(a);
            return b != NONE && front(b) == a;
        }

        List<Integer> line(int a) {
            List<Integer> line = new ArrayList<>();
            int at = a;
            while (at != NONE && !line.contains(at)) {
                line.add(at);
                at = front(at);
            }
            return line;
        }

        /** The houses of its ring; none: it is in none. */
        List<Integer> ring(int a) {
            List<Integer> line = line(a);
            int last = line.get(line.size() - 1);
            return line.size() >= 3 && front(last) == a ? line : new ArrayList<>();
        }

        int countStares() {
            int both = 0;
            for (int a = 0; a < n; a++) {
                both += stares(a) ? 1 : 0;
            }
            return both / 2;
        }

        int countRings() {
            int rings = 0;
            for (int a = 0; a < n; a++) {
                List<Integer> ring = ring(a);
                rings += !ring.isEmpty() && ring.stream().min(Integer::compare).get() == a ? 1 : 0;
            }
            return rings;
        }

        int atRiver() {
            int count = 0;
            for (int a = 0; a < n; a++) {
                count += front(a) == NONE ? 1 : 0;
            }
            return count;
        }

        void quarrel(int a, int b, int by) {
            anger[a][b] = Math.min(20, anger[a][b] + by);
        }

        void peace(int a, int b) {
            anger[a][b] = 0;
            anger[b][a] = 0;
        }

        /** A morning with all that it does; tells how many windows turn. */
        int morning() {
            int[] fronts = fronts();
            int[][] next = new int[n][n];
            for (int a = 0; a < n; a++) {
                torn[a] += stares(a) ? 1 : 0;
                cost[a] += ring(a).isEmpty() ? 0 : 1;
                for (int b = 0; b < n; b++) {
                    next[a][b] = a == b ? 0 : Math.max(0, Math.min(20, anger[a][b] + change(fronts, a, b)));
                }
            }
            for (int a = 0; a < n; a++) {
                System.arraycopy(next[a], 0, anger[a], 0, n);
            }
            int turns = 0;
            for (int a = 0; a < n; a++) {
                turns += front(a) != fronts[a] ? 1 : 0;
            }
            mornings++;
            turned += turns;
            return turns;
        }

        private int change(int[] fronts, int a, int b) {
            boolean there = fronts[a] == b;
            boolean back = fronts[b] == a;
            int besides = back ? 1 : 0;
            switch (kind[a]) {
                case 1:
                    return (there ? 1 : -1) + besides;
                case 2:
                    return -2;
                case 4:
                    return (there ? back ? 2 : 1 : -1) + besides;
                default:
                    return (there ? 0 : -1) + besides;
            }
        }

        Town behind(int mornings) {
            Town then = copy();
            for (int morning = 0; morning < mornings; morning++) {
                then.morning();
            }
            return then;
        }

        boolean is(int a) {
            return a >= 0 && a < n;
        }

        boolean two(int a, int b) {
            return is(a) && is(b) && a != b;
        }

        List<Integer> pairs() {
            List<Integer> pairs = new ArrayList<>();
            for (int a = 0; a < n; a++) {
                for (int b = a + 1; b < n; b++) {
                    pairs.add(10 * a + b);
                }
            }
            return pairs;
        }
    }

    // ---- the square

    int letter(int code) {
        if (code < 1 || code > 126) {
            return OUTSIDE;
        }
        if (page.length() == 38) {
            return FULL;
        }
        page.append((char) code);
        return page.length();
    }

    int blank() {
        int had = page.length();
        page.setLength(0);
        return had;
    }

    private static Pattern texts(int houses) {
        StringBuilder angers = new StringBuilder();
        for (int a = 0; a < houses; a++) {
            for (int b = 0; b < houses; b++) {
                if (a != b) {
                    angers.append(angers.length() == 0 ? "" : "|").append(a).append(b).append("[1-9]");
                }
            }
        }
        return Pattern.compile("([htmsf][0-9],){" + (houses - 1) + "}[htmsf][0-9];(" + angers + "){0,6}");
    }

    private static final Pattern[] TEXTS = {texts(3), texts(4), texts(5), texts(6)};

    int fault() {
        for (int place = 0; place < page.length(); place++) {
            boolean goesOn = false;
            for (Pattern text : TEXTS) {
                Matcher matcher = text.matcher(page.substring(0, place + 1));
                goesOn |= matcher.matches() || matcher.hitEnd();
            }
            if (!goesOn) {
                return place;
            }
        }
        return page.length();
    }

    int square() {
        for (int houses = 3; houses <= 6; houses++) {
            if (!TEXTS[houses - 3].matcher(page).matches()) {
                continue;
            }
            String[] halves = page.toString().split(";", -1);
            String[] told = halves[0].split(",");
            town = new Town(houses);
            for (int a = 0; a < houses; a++) {
                town.kind[a] = "htmsf".indexOf(told[a].charAt(0));
                town.view[a] = told[a].charAt(1) - '0';
            }
            for (int at = 0; at < halves[1].length(); at += 3) {
                town.quarrel(halves[1].charAt(at) - '0', halves[1].charAt(at + 1) - '0', halves[1].charAt(at + 2) - '0');
            }
            kept = null;
            read++;
            page.setLength(0);
            return houses;
        }
        return STATE;
    }

    int house(int house, int what) {
        if (!town.is(house)) {
            return UNKNOWN;
        }
        int bits = 0;
        int angers = 0;
        for (int other = 0; other < town.n; other++) {
            bits += town.front(other) == house ? 1 << other : 0;
            angers += town.anger[house][other];
        }
        List<Integer> line = town.line(house);
        int[] tells = {town.kind[house], town.view[house], town.front(house), bits, angers,
            town.stares(house) ? 1 : 0, town.ring(house).size(), line.size(), line.get(line.size() - 1),
            town.torn[house], town.cost[house]};
        return what < 0 || what > 10 ? OUTSIDE : tells[what];
    }

    int as(int house, int kind) {
        if (!town.is(house)) {
            return UNKNOWN;
        }
        if (kind < 0 || kind > 4) {
            return OUTSIDE;
        }
        String[] such = {"01234", "14", "2", "3", "4"};
        return such[kind].indexOf('0' + town.kind[house]) >= 0 ? house : NONE;
    }

    int anger(int a, int b) {
        return town.two(a, b) ? town.anger[a][b] : UNKNOWN;
    }

    int line(int house, int k) {
        if (!town.is(house)) {
            return UNKNOWN;
        }
        if (k < 0 || k > 5) {
            return OUTSIDE;
        }
        return k < town.line(house).size() ? town.line(house).get(k) : NONE;
    }

    int wall(int a, int b) {
        return !town.two(a, b) ? UNKNOWN : town.wall[a][b] ? 1 : 0;
    }

    // ---- quarrels, peaces, mornings

    int quarrel(int a, int b, int by) {
        if (!town.two(a, b)) {
            return UNKNOWN;
        }
        if (by < 1 || by > 9) {
            return OUTSIDE;
        }
        town.quarrel(a, b, by);
        town.quarrels++;
        return town.anger[a][b];
    }

    int peace(int a, int b) {
        if (!town.two(a, b)) {
            return UNKNOWN;
        }
        int both = town.anger[a][b] + town.anger[b][a];
        if (both == 0) {
            return STATE;
        }
        town.peace(a, b);
        town.peaces++;
        return both;
    }

    int build(int a, int b, boolean up) {
        int was = wall(a, b);
        if (was != UNKNOWN) {
            town.wall[a][b] = up;
            town.wall[b][a] = up;
        }
        return was;
    }

    int tenant(int house, int kind) {
        if (!town.is(house)) {
            return UNKNOWN;
        }
        if (kind < 0 || kind > 4) {
            return OUTSIDE;
        }
        int was = town.kind[house];
        town.kind[house] = kind;
        town.anger[house] = new int[town.n];
        return was;
    }

    int court() {
        for (int house = 0; house < town.n; house++) {
            List<Integer> ring = town.ring(house);
            if (!ring.isEmpty()) {
                int[] fronts = town.fronts();
                for (int member : ring) {
                    town.anger[member][fronts[member]] = 0;
                }
                return ring.size();
            }
        }
        return STATE;
    }

    int morning() {
        return town.n == 0 ? STATE : town.mornings == 999 ? FULL : town.morning();
    }

    // ---- what would be

    int settles(int what) {
        if (what != 0 && (what < 10 || what > 15)) {
            return OUTSIDE;
        }
        if (town.n == 0) {
            return STATE;
        }
        for (int mornings = 0; mornings <= 40; mornings++) {
            Town then = town.behind(mornings);
            if (then.behind(20).turned == then.turned) {
                int house = what - 10;
                return what == 0 ? mornings : then.is(house) ? then.front(house) : NONE;
            }
        }
        return NONE;
    }

    /** All rows of so many pairs, each with the least ahead, by numbers. */
    private static List<List<Integer>> rows(List<Integer> pairs, int many) {
        List<List<Integer>> rows = new ArrayList<>();
        if (many == 0) {
            rows.add(new ArrayList<>());
        } else {
            for (int at = 0; at < pairs.size(); at++) {
                for (List<Integer> rest : rows(pairs.subList(at + 1, pairs.size()), many - 1)) {
                    rest.add(0, pairs.get(at));
                    rows.add(rest);
                }
            }
        }
        return rows;
    }

    int calm(int houses, int mornings, int what) {
        if (houses < 1 || houses > (1 << town.n) - 1 || mornings < 0 || mornings > 5
                || what != 0 && (what < 10 || what > 12)) {
            return OUTSIDE;
        }
        if (calms == 20) {
            return STATE;
        }
        calms++;
        for (int few = 0; few <= 3; few++) {
            for (List<Integer> row : rows(town.pairs(), few)) {
                Town then = town.copy();
                row.forEach(pair -> then.peace(pair / 10, pair % 10));
                Town behind = then.behind(mornings);
                boolean calm = true;
                for (int house = 0; house < town.n; house++) {
                    calm &= (houses & 1 << house) == 0 || behind.front(house) == NONE;
                }
                if (calm) {
                    return what == 0 ? few : what - 10 < few ? row.get(what - 10) : NONE;
                }
            }
        }
        return NONE;
    }

    int arbiter(int mornings, int what) {
        if (mornings < 1 || mornings > 3 || what != 0 && (what < 10 || what > 12)) {
            return OUTSIDE;
        }
        if (town.n == 0 || arbiters == 12) {
            return STATE;
        }
        arbiters++;
        int[] best = {Integer.MAX_VALUE, NONE, NONE, NONE};
        arbit(town, mornings, new ArrayList<>(), best);
        return what == 0 ? best[0] : best[what - 9];
    }

    private void arbit(Town then, int mornings, List<Integer> row, int[] best) {
        if (row.size() == mornings) {
            int left = then.countStares() + then.countRings();
            if (left < best[0]) {
                best[0] = left;
                for (int at = 0; at < mornings; at++) {
                    best[at + 1] = row.get(at);
                }
            }
            return;
        }
        List<Integer> choices = new ArrayList<>(List.of(NONE));
        choices.addAll(then.pairs());
        for (int pair : choices) {
            Town next = then.copy();
            if (pair != NONE) {
                next.peace(pair / 10, pair % 10);
            }
            next.morning();
            row.add(pair);
            arbit(next, mornings, row, best);
            row.remove(row.size() - 1);
        }
    }

    int grudge(int a, int b, int mornings) {
        if (!town.two(a, b)) {
            return UNKNOWN;
        }
        if (mornings < 0 || mornings > 5) {
            return OUTSIDE;
        }
        for (int by = 1; by <= 9; by++) {
            Town then = town.copy();
            then.quarrel(a, b, by);
            if (then.behind(mornings).front(a) == b) {
                return by;
            }
        }
        return NONE;
    }

    int walls(int mornings, int what) {
        if (mornings < 0 || mornings > 5 || what < 0 || what > 1) {
            return OUTSIDE;
        }
        if (town.n == 0) {
            return STATE;
        }
        int most = town.behind(mornings).atRiver();
        int best = NONE;
        for (int pair : town.pairs()) {
            if (!town.wall[pair / 10][pair % 10]) {
                Town then = town.copy();
                then.wall[pair / 10][pair % 10] = true;
                then.wall[pair % 10][pair / 10] = true;
                int river = then.behind(mornings).atRiver();
                if (river > most) {
                    most = river;
                    best = pair;
                }
            }
        }
        return best == NONE ? NONE : what == 0 ? best : most;
    }

    // ---- what is seen

    int see(int house, int faces, int mornings) {
        if (!town.is(house) || faces != NONE && !town.two(house, faces)) {
            return UNKNOWN;
        }
        if (mornings < 0 || mornings > 5) {
            return OUTSIDE;
        }
        if (town.seen.size() == 8) {
            return FULL;
        }
        town.seen.add(new int[] {house, faces, mornings});
        return town.seen.size();
    }

    int forget() {
        int had = town.seen.size();
        town.seen.clear();
        return had;
    }

    int span(int a, int b, int what) {
        if (!town.two(a, b)) {
            return UNKNOWN;
        }
        if (what < 0 || what > 3) {
            return OUTSIDE;
        }
        List<Integer> fit = new ArrayList<>();
        for (int anger = 0; anger <= 20; anger++) {
            Function<Integer, Town> then = would(a, b, anger);
            if (town.seen.stream().allMatch(seen -> then.apply(seen[2]).front(seen[0]) == seen[1])) {
                fit.add(anger);
            }
        }
        if (what == 0 || fit.isEmpty()) {
            return what == 0 ? fit.size() : NONE;
        }
        return what == 1 ? fit.get(0) : what == 2 ? fit.get(fit.size() - 1) : look(fit, a, b);
    }

    private Function<Integer, Town> would(int a, int b, int anger) {
        Town then = town.copy();
        then.anger[a][b] = anger;
        return then::behind;
    }

    private int look(List<Integer> fit, int a, int b) {
        int best = NONE;
        long fewest = Long.MAX_VALUE;
        for (int mornings = 0; mornings <= 5; mornings++) {
            long worst = 0;
            for (int front = NONE; front < town.n; front++) {
                int seen = front;
                int behind = mornings;
                worst = Math.max(worst,
                    fit.stream().filter(anger -> would(a, b, anger).apply(behind).front(a) == seen).count());
            }
            if (worst < fewest) {
                fewest = worst;
                best = mornings;
            }
        }
        return best;
    }

    int summers(int mornings, int seed, int what) {
        if (mornings < 1 || mornings > 40 || seed < 0 || what < 0 || what > 2) {
            return OUTSIDE;
        }
        if (town.n == 0) {
            return STATE;
        }
        Town then = town.copy();
        long next = seed;
        int stares = 0;
        int turns = 0;
        for (int morning = 0; morning < mornings; morning++) {
            int[] draws = new int[3];
            for (int draw = 0; draw < 3; draw++) {
                next = (next * 1103515245L + 12345L) & 0x7fffffffL;
                draws[draw] = (int) ((next >> 16) % (draw == 2 ? 4 : town.n));
            }
            if (draws[0] != draws[1]) {
                then.quarrel(draws[0], draws[1], draws[2]);
            }
            turns += then.morning();
            stares += then.countStares();
        }
        return what == 0 ? stares : what == 1 ? turns : (int) next;
    }

    // ---- what is told of all

    int image() {
        if (town.n == 0) {
            return STATE;
        }
        kept = town.copy();
        return town.mornings;
    }

    int restore() {
        if (kept == null) {
            return STATE;
        }
        town = kept.copy();
        return town.mornings;
    }

    int count(int what) {
        if (what < 0 || what > 19) {
            return OUTSIDE;
        }
        int above = 0;
        int together = 0;
        int views = 0;
        int priests = 0;
        int walls = 0;
        int torn = 0;
        int costs = 0;
        for (int a = 0; a < town.n; a++) {
            priests += house(a, 3) == 0 ? 1 : 0;
            views += town.front(a) == NONE ? town.view[a] : 0;
            torn += town.torn[a];
            costs += town.cost[a];
            for (int b = 0; b < town.n; b++) {
                above += town.anger[a][b] > 0 ? 1 : 0;
                together += town.anger[a][b];
                walls += a < b && town.wall[a][b] ? 1 : 0;
            }
        }
        return new int[] {town.n, above, together, town.atRiver(), views, town.countStares(), town.countRings(),
            priests, walls, town.mornings, town.turned, town.quarrels, town.peaces, torn, costs,
            town.seen.size(), page.length(), read, calms, arbiters}[what];
    }

    long digest() {
        List<Integer> numbers = new ArrayList<>();
        for (int a = 0; a < town.n; a++) {
            for (int what = 0; what <= 10; what++) {
                numbers.add(house(a, what));
            }
            for (int b = 0; b < town.n; b++) {
                if (a != b) {
                    numbers.add(town.anger[a][b]);
                    numbers.add(town.wall[a][b] ? 1 : 0);
                }
            }
        }
        if (town.n > 0) {
            for (int what : new int[] {0, 10, 11, 12, 13, 14, 15}) {
                numbers.add(settles(what));
            }
            numbers.add(walls(1, 0));
            numbers.add(walls(1, 1));
            numbers.add(grudge(0, 1, 2));
            for (int what = 0; what <= 2; what++) {
                numbers.add(span(1, 0, what));
            }
        }
        page.chars().forEach(numbers::add);
        for (int what = 0; what <= 19; what++) {
            numbers.add(count(what));
        }
        long h = 1093;
        for (int number : numbers) {
            h = 31 * h + number;
        }
        return h;
    }
}
