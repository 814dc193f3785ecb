import java.util.ArrayList;
import java.util.HashMap;
import java.util.List;
import java.util.Map;
import java.util.Random;

/**
 * Random runs of calls, each answered by the class and by a plain model that tries everything:
 * every row of roads, every set of pairs, every way to draw a train.
 */
public final class PlainModelTest {
    private static final int RUNS = 1500;
    private static final int CALLS = 512;

    public static void main(String[] args) {
        int wrong = 0;
        for (int run = 0; run < RUNS && wrong < 5; run++) {
            wrong += run(run) ? 0 : 1;
        }
        System.out.println(wrong == 0 ? "the class and the plain model agree" : wrong + " runs differ");
        if (wrong != 0) {
            System.exit(1);
        }
    }

    private static boolean run(int run) {
        Random random = new Random(run);
        GrudgeYard x = new GrudgeYard();
        Plain plain = new Plain();
        List<String> log = new ArrayList<>();
        int calls = 0;
        while (calls < CALLS) {
            List<int[]> batch = random.nextInt(calls < 60 ? 8 : 60) == 0 ? telling(random) : List.of(anyCall(random));
            for (int[] call : batch) {
                int got = ask(x, call);
                int want = plain.ask(call);
                log.add(named(call) + " = " + got);
                calls++;
                if (got != want) {
                    System.out.println("run " + run + ": " + log.subList(Math.max(0, log.size() - 300), log.size()));
                    System.out.println("due is " + want);
                    return false;
                }
            }
        }
        return true;
    }

    private static final String[] NAMES = {"feed", "yard", "fault", "told", "wagon", "road", "at", "enemies", "cut",
        "pull", "peace", "drift", "undo", "plan", "leastRoads", "safe", "foremen", "fewest", "rusted", "couple",
        "laws", "next", "chalk", "fit", "write", "tear", "judge", "seed", "keep", "goBack"};
    /** How often each call comes: those that search least, those that change most. */
    private static final int[] OFTEN = {1, 0, 2, 10, 8, 8, 8, 4, 20, 8, 10, 6, 8, 6, 4, 4, 3, 6, 2, 4,
        4, 2, 6, 3, 6, 1, 5, 2, 2, 3};

    private static String named(int[] call) {
        StringBuilder text = new StringBuilder(NAMES[call[0]]);
        for (int i = 1; i < call.length; i++) {
            text.append(i == 1 ? "(" : ", ").append(call[i]);
        }
        return text.append(")").toString();
    }

    private static int[] anyCall(Random random) {
        int sum = 0;
        for (int often : OFTEN) {
            sum += often;
        }
        int left = random.nextInt(sum);
        int name = 0;
        while (left >= OFTEN[name]) {
            left -= OFTEN[name];
            name++;
        }
        return new int[] {name, number(random, name), number(random, name), number(random, name)};
    }

    private static int number(Random random, int name) {
        int which = random.nextInt(40);
        if (which == 0) {
            int[] far = {Integer.MIN_VALUE, Integer.MAX_VALUE, -2, 8, 9, 16, 17, 60, 61, 99, 100, 101, 255, 256};
            return far[random.nextInt(far.length)];
        }
        boolean wide = name == 0 || name == 11 || name == 15 || name == 18 || name == 20 || name == 27;
        if (wide && which < 25) {
            return random.nextInt(name == 0 ? 256 : name == 20 ? 17 : name == 27 ? Integer.MAX_VALUE : 61);
        }
        return which < 4 ? NONE : random.nextInt(which < 30 ? 4 : 8);
    }

    private static final int NONE = -1;

    private static List<int[]> telling(Random random) {
        StringBuilder text = new StringBuilder();
        String blank = random.nextInt(3) == 0 ? " " : "";
        text.append(blank).append("y").append(list(random, 1 + random.nextInt(4), 1, 7)).append(";").append(blank);
        int wagons = random.nextInt(5) == 0 ? random.nextInt(8) : 4 + random.nextInt(4);
        int kinds = 1 + random.nextInt(5);
        for (int w = 0; w < wagons; w++) {
            text.append("w").append(random.nextInt(kinds)).append(" ").append(1 + random.nextInt(30)).append(" ");
            text.append(blank).append(random.nextInt(21)).append(blank).append(";");
        }
        List<Integer> pairs = shuffled(random, 25);
        int grudges = random.nextInt(11);
        for (int g = 0; g < grudges; g++) {
            text.append("x").append(pairs.get(g) / 5).append(" ").append(pairs.get(g) % 5).append(";");
        }
        if (wagons > 0 && random.nextInt(4) > 0) {
            List<Integer> order = shuffled(random, wagons);
            text.append("t");
            int length = 1 + random.nextInt(wagons);
            for (int i = 0; i < length; i++) {
                text.append(i == 0 ? "" : ",").append(blank).append(order.get(i));
            }
            text.append(";");
        }
        if (random.nextInt(3) == 0) {
            spoil(random, text);
        }
        List<int[]> calls = new ArrayList<>();
        for (int i = 0; i < text.length(); i++) {
            calls.add(new int[] {0, text.charAt(i)});
        }
        calls.add(new int[] {1});
        calls.add(new int[] {2});
        return calls;
    }

    private static String list(Random random, int count, int least, int most) {
        StringBuilder text = new StringBuilder();
        for (int i = 0; i < count; i++) {
            text.append(i == 0 ? "" : ",").append(least + random.nextInt(most - least + 1));
        }
        return text.toString();
    }

    private static List<Integer> shuffled(Random random, int count) {
        List<Integer> all = new ArrayList<>();
        for (int i = 0; i < count; i++) {
            all.add(random.nextInt(all.size() + 1), i);
        }
        return all;
    }

    private static void spoil(Random random, StringBuilder text) {
        int times = 1 + random.nextInt(2);
        String letters = "ywxt;,  0123456789z";
        for (int i = 0; i < times; i++) {
            int spot = random.nextInt(text.length());
            char letter = letters.charAt(random.nextInt(letters.length()));
            switch (random.nextInt(4)) {
                case 0: text.setCharAt(spot, letter); break;
                case 1: text.insert(spot, letter); break;
                case 2: text.deleteCharAt(spot); break;
                default: text.append(text.substring(spot)); break;
            }
        }
    }

    private static int ask(GrudgeYard x, int[] call) {
        int a = call.length > 1 ? call[1] : 0;
        int b = call.length > 2 ? call[2] : 0;
        int c = call.length > 3 ? call[3] : 0;
        switch (call[0]) {
            case 0: return x.feed(a);
            case 1: return x.yard();
            case 2: return x.fault();
            case 3: return x.told(a);
            case 4: return x.wagon(a, b);
            case 5: return x.road(a, b);
            case 6: return x.at(a, b);
            case 7: return x.enemies(a, b);
            case 8: return x.cut(a, b);
            case 9: return x.pull(a);
            case 10: return x.peace(a, b);
            case 11: return x.drift(a);
            case 12: return x.undo();
            case 13: return x.plan(a);
            case 14: return x.leastRoads(a);
            case 15: return x.safe(a, b, c);
            case 16: return x.foremen(a);
            case 17: return x.fewest(a);
            case 18: return x.rusted(a, b);
            case 19: return x.couple(a, b, c % 2 != 0);
            case 20: return x.laws(a);
            case 21: return x.next();
            case 22: return x.chalk(a, b, c);
            case 23: return x.fit(a);
            case 24: return x.write(a, b, c);
            case 25: return x.tear();
            case 26: return x.judge();
            case 27: return x.seed(a);
            case 28: return x.keep(a);
            default: return x.goBack(a);
        }
    }

    /** Wagons by their numbers in lists; the hump's head first, a road's deepest first. */
    private static final class State {
        List<Integer> hump = new ArrayList<>();
        List<List<Integer>> roads = new ArrayList<>();
        List<List<Integer>> peace = new ArrayList<>();
        int cuts;
        int kicks;
        int firstKick = NONE;
        int seed;

        State copy() {
            State copy = new State();
            copy.hump = new ArrayList<>(hump);
            roads.forEach(road -> copy.roads.add(new ArrayList<>(road)));
            peace.forEach(places -> copy.peace.add(new ArrayList<>(places)));
            copy.cuts = cuts;
            copy.kicks = kicks;
            copy.firstKick = firstKick;
            copy.seed = seed;
            return copy;
        }
    }

    /** What a text tells. */
    private static final class Told {
        List<Integer> rooms = new ArrayList<>();
        List<int[]> wagons = new ArrayList<>();
        List<List<Integer>> grudges = new ArrayList<>();
        List<Integer> train = new ArrayList<>();
        boolean hadTrain;
        int fault;
        int faultSpot = NONE;
    }

    /** Reads a text that was first broken into pieces: numbers, single letters, the end. */
    private static final class Teller {
        final List<String> pieces = new ArrayList<>();
        final List<Integer> spots = new ArrayList<>();
        final Told told = new Told();
        int next;

        Teller(String text) {
            int i = 0;
            while (i < text.length()) {
                int end = i + 1;
                while (digit(text, i) && digit(text, end)) {
                    end++;
                }
                if (text.charAt(i) != ' ') {
                    pieces.add(text.substring(i, end));
                    spots.add(i);
                }
                i = end;
            }
            pieces.add("end");
            spots.add(text.length());
        }

        static boolean digit(String text, int i) {
            return i < text.length() && text.charAt(i) >= '0' && text.charAt(i) <= '9';
        }

        Told tell() {
            try {
                while (!piece().equals("end")) {
                    clause();
                }
            } catch (Fault fault) {
                told.fault = fault.number;
                told.faultSpot = spots.get(next);
            }
            return told;
        }

        String piece() {
            return pieces.get(next);
        }

        void need(boolean right, int fault) {
            if (!right) {
                throw new Fault(fault);
            }
        }

        void clause() {
            need(next == 0 ? piece().equals("y") : "ywxt".contains(piece()), 1);
            switch (piece()) {
                case "y":
                    need(next == 0, 3);
                    do {
                        need(told.rooms.size() < 4, 1);
                        next++;
                        told.rooms.add(number(1, 7));
                    } while (piece().equals(","));
                    break;
                case "w":
                    need(told.wagons.size() < 7, 3);
                    next++;
                    told.wagons.add(new int[] {number(0, 4), number(1, 30), number(0, 20)});
                    break;
                case "x":
                    need(told.grudges.size() < 10, 3);
                    next++;
                    int a = number(0, 4);
                    int b = number(0, 4);
                    next--;
                    need(!told.grudges.contains(List.of(a, b)), 4);
                    next++;
                    told.grudges.add(List.of(a, b));
                    break;
                default:
                    need(!told.hadTrain, 3);
                    told.hadTrain = true;
                    do {
                        next++;
                        int w = number(0, told.wagons.size() - 1);
                        next--;
                        need(!told.train.contains(w), 4);
                        next++;
                        told.train.add(w);
                    } while (piece().equals(","));
                    break;
            }
            need(piece().equals(";"), 1);
            next++;
        }

        int number(int least, int most) {
            need(digit(piece(), 0), 1);
            need(piece().length() <= 3, 2);
            int value = Integer.parseInt(piece());
            need(value >= least && value <= most, 2);
            next++;
            return value;
        }
    }

    private static final class Fault extends RuntimeException {
        private static final long serialVersionUID = 1;
        final int number;

        Fault(int number) {
            super(null, null, false, false);
            this.number = number;
        }
    }

    private static final class Plain {
        static final int UNKNOWN = -1000000001;
        static final int OUTSIDE = -1000000002;
        static final int NOT = -1000000003;
        static final int FULL = -1000000004;

        String text = "";
        Told told = new Told();
        int faultSpot = NONE;
        State state = new State();
        List<State> past = new ArrayList<>();
        Map<Integer, State> images = new HashMap<>();
        List<int[]> couplings = new ArrayList<>();
        List<int[]> chalk = new ArrayList<>();
        List<int[]> book = new ArrayList<>();

        boolean road(int r) {
            return r >= 0 && r < told.rooms.size();
        }

        boolean wagon(int w) {
            return w >= 0 && w < told.wagons.size();
        }

        boolean kind(int kind) {
            return kind >= 0 && kind <= 4;
        }

        int kindOf(int w) {
            return told.wagons.get(w)[0];
        }

        boolean enemies(int a, int b) {
            return a < 4 && b < 4 && told.grudges.contains(List.of(a, b));
        }

        int ask(int[] call) {
            int a = call.length > 1 ? call[1] : 0;
            int b = call.length > 2 ? call[2] : 0;
            int c = call.length > 3 ? call[3] : 0;
            if (call[0] < 8) {
                return askYard(call[0], a, b);
            }
            if (call[0] < 13) {
                return askDone(call[0], a, b);
            }
            return call[0] < 19 ? askTried(call[0], a, b, c) : askRest(call[0], a, b, c);
        }

        int askYard(int name, int a, int b) {
            switch (name) {
                case 0:
                    if (a < 0 || a > 255) {
                        return OUTSIDE;
                    }
                    if (text.length() == 230) {
                        return FULL;
                    }
                    text += (char) a;
                    return text.length();
                case 1: return yard();
                case 2: return faultSpot;
                case 3:
                    int[] all = {told.rooms.size(), told.wagons.size(), told.train.size(), text.length(),
                        state.hump.size(), state.cuts, state.kicks, state.firstKick, couplings.size(), chalk.size(),
                        book.size(), past.size()};
                    return a < 0 || a > 11 ? OUTSIDE : all[a];
                case 4:
                    return wagon(a) ? wagonWhat(a, b) : UNKNOWN;
                case 5:
                    return road(a) ? roadWhat(a, b) : UNKNOWN;
                case 6:
                    if (a != NONE && !road(a)) {
                        return UNKNOWN;
                    }
                    List<Integer> line = a == NONE ? state.hump : state.roads.get(a);
                    return b >= 0 && b < line.size() ? line.get(b) : NONE;
                default:
                    return kind(a) && kind(b) ? (enemies(a, b) ? 1 : 0) : UNKNOWN;
            }
        }

        int yard() {
            Told newly = new Teller(text).tell();
            text = "";
            faultSpot = newly.faultSpot;
            if (newly.fault != 0) {
                return -10 - newly.fault;
            }
            told = newly;
            int seed = state.seed;
            state = new State();
            state.seed = seed;
            for (int w = 0; w < told.wagons.size(); w++) {
                state.hump.add(w);
            }
            for (int r = 0; r < told.rooms.size(); r++) {
                state.roads.add(new ArrayList<>());
                state.peace.add(new ArrayList<>());
            }
            past.clear();
            images.clear();
            couplings.clear();
            chalk.clear();
            book.clear();
            return told.wagons.size();
        }

        int wagonWhat(int w, int what) {
            int[] wagon = told.wagons.get(w);
            int road = NONE;
            for (int r = 0; r < state.roads.size(); r++) {
                road = state.roads.get(r).contains(w) ? r : road;
            }
            switch (what) {
                case 0:
                case 1:
                case 2: return wagon[what];
                case 3: return road;
                case 4: return (road == NONE ? state.hump : state.roads.get(road)).indexOf(w);
                case 5: return 60 + wagon[1] - 2 * wagon[2];
                default: return OUTSIDE;
            }
        }

        int roadWhat(int r, int what) {
            switch (what) {
                case 0: return told.rooms.get(r);
                case 1: return state.roads.get(r).size();
                case 2: return state.peace.get(r).stream().mapToInt(i -> 1 << i).sum();
                default: return OUTSIDE;
            }
        }

        boolean hasRoom(int r) {
            return state.roads.get(r).size() < told.rooms.get(r);
        }

        void remember() {
            past.add(state.copy());
            if (past.size() > 20) {
                past.remove(0);
            }
        }

        int cutNow(int k, int r) {
            int kicks = 0;
            for (int i = 0; i < k; i++) {
                List<Integer> road = state.roads.get(r);
                int w = state.hump.remove(0);
                if (!road.isEmpty() && enemies(kindOf(road.get(road.size() - 1)), kindOf(w))) {
                    kicks++;
                    int kick = 10 * road.get(road.size() - 1) + w;
                    state.firstKick = state.firstKick == NONE ? kick : state.firstKick;
                }
                road.add(w);
            }
            state.cuts++;
            state.kicks += kicks;
            return kicks;
        }

        int pullNow(int r) {
            List<Integer> road = state.roads.get(r);
            int pulled = road.size();
            road.forEach(w -> state.hump.add(0, w));
            road.clear();
            state.peace.get(r).clear();
            return pulled;
        }

        int askDone(int name, int a, int b) {
            switch (name) {
                case 8:
                    if (!road(b) || a < 1 || a > 7) {
                        return road(b) ? OUTSIDE : UNKNOWN;
                    }
                    if (a > state.hump.size() || state.roads.get(b).size() + a > told.rooms.get(b)) {
                        return NOT;
                    }
                    remember();
                    return cutNow(a, b);
                case 9:
                    if (!road(a) || state.roads.get(a).isEmpty()) {
                        return road(a) ? NOT : UNKNOWN;
                    }
                    remember();
                    return pullNow(a);
                case 10:
                    return road(a) ? peace(a, b) : UNKNOWN;
                case 11:
                    return drift(a);
                default:
                    if (past.isEmpty()) {
                        return NOT;
                    }
                    int seed = state.seed;
                    state = past.remove(past.size() - 1);
                    state.seed = seed;
                    return past.size();
            }
        }

        int peace(int r, int i) {
            List<Integer> road = state.roads.get(r);
            if (i < 0 || i > 6 || i + 1 >= road.size() || state.peace.get(r).contains(i)) {
                return NOT;
            }
            remember();
            state.peace.get(r).add(i);
            return enemies(kindOf(road.get(i)), kindOf(road.get(i + 1))) ? 1 : 0;
        }

        int drift(int n) {
            if (n < 1 || n > 60) {
                return OUTSIDE;
            }
            if (told.rooms.isEmpty()) {
                return NOT;
            }
            remember();
            for (int i = 0; i < n; i++) {
                state.seed = (int) ((state.seed * 1103515245L + 12345) % 2147483648L);
                int r = state.seed / 65536 % told.rooms.size();
                if (state.hump.isEmpty()) {
                    pullNow(r);
                } else if (hasRoom(r)) {
                    cutNow(1, r);
                }
            }
            return state.cuts;
        }

        int askTried(int name, int a, int b, int c) {
            switch (name) {
                case 13: return plan(a);
                case 14: return a == NONE || wagon(a) ? leastRoads(a) : UNKNOWN;
                case 15:
                    if (!wagon(a) || !wagon(b) || a == b) {
                        return UNKNOWN;
                    }
                    if (c < 1 || c > 99) {
                        return OUTSIDE;
                    }
                    int later = 100 * c / wagonWhat(a, 5) - 100 * c / wagonWhat(b, 5);
                    return later < 0 ? 0 : later;
                case 16:
                    return a < 1 || a > 7 ? OUTSIDE : foremen(a, true);
                case 17:
                    if (!road(a)) {
                        return UNKNOWN;
                    }
                    int needed = 0;
                    List<Integer> road = state.roads.get(a);
                    for (int i = 1; i < road.size(); i++) {
                        boolean kick = enemies(kindOf(road.get(i - 1)), kindOf(road.get(i)));
                        needed += kick && !state.peace.get(a).contains(i - 1) ? 1 : 0;
                    }
                    return needed;
                default:
                    if (a < 0 || a > 60 || b < 0 || b > 100) {
                        return OUTSIDE;
                    }
                    long odds = 1000000000;
                    for (int i = 0; i < a; i++) {
                        odds = odds * (100 - b) / 100;
                    }
                    return (int) odds;
            }
        }

        /** Every row of roads for what is on the hump, room or no room, in order. */
        List<int[]> rows() {
            List<int[]> rows = new ArrayList<>();
            rows.add(new int[0]);
            for (int i = 0; i < state.hump.size(); i++) {
                List<int[]> longer = new ArrayList<>();
                for (int[] row : rows) {
                    for (int r = 0; r < told.rooms.size(); r++) {
                        int[] more = java.util.Arrays.copyOf(row, i + 1);
                        more[i] = r;
                        longer.add(more);
                    }
                }
                rows = longer;
            }
            return rows;
        }

        /** The roads behind a row of roads; null: there is no room for it. */
        List<List<Integer>> behind(int[] row) {
            List<List<Integer>> roads = state.copy().roads;
            for (int i = 0; i < row.length; i++) {
                roads.get(row[i]).add(state.hump.get(i));
            }
            for (int r = 0; r < roads.size(); r++) {
                if (roads.get(r).size() > told.rooms.get(r)) {
                    return null;
                }
            }
            return roads;
        }

        int kicksIn(List<List<Integer>> roads) {
            int kicks = 0;
            for (List<Integer> road : roads) {
                for (int i = 1; i < road.size(); i++) {
                    kicks += enemies(kindOf(road.get(i - 1)), kindOf(road.get(i))) ? 1 : 0;
                }
            }
            return kicks;
        }

        int plan(int i) {
            int[] best = null;
            int bestKicks = 0;
            int bestCuts = 0;
            for (int[] row : rows()) {
                List<List<Integer>> roads = behind(row);
                if (roads == null) {
                    continue;
                }
                int kicks = kicksIn(roads) - kicksIn(state.roads);
                int cuts = 0;
                for (int w = 0; w < row.length; w++) {
                    cuts += w == 0 || row[w] != row[w - 1] ? 1 : 0;
                }
                if (best == null || kicks < bestKicks || kicks == bestKicks && cuts < bestCuts) {
                    best = row;
                    bestKicks = kicks;
                    bestCuts = cuts;
                }
            }
            if (best == null) {
                return NONE;
            }
            if (i == NONE || i == -2) {
                return i == NONE ? bestKicks : bestCuts;
            }
            return i >= 0 && i < best.length ? best[i] : NONE;
        }

        int leastRoads(int w) {
            if (told.train.isEmpty()) {
                return w == NONE ? 0 : NONE;
            }
            List<Integer> sorted = new ArrayList<>(told.train);
            sorted.sort(null);
            for (int count = 1; true; count++) {
                int rows = (int) Math.round(Math.pow(count, sorted.size()));
                for (int code = 0; code < rows; code++) {
                    int[] row = new int[sorted.size()];
                    for (int i = row.length - 1, left = code; i >= 0; i--, left /= count) {
                        row[i] = left % count;
                    }
                    if (draws(sorted, row, count)) {
                        return w == NONE ? count : sorted.contains(w) ? row[sorted.indexOf(w)] : NONE;
                    }
                }
            }
        }

        boolean draws(List<Integer> sorted, int[] row, int count) {
            List<List<Integer>> piles = new ArrayList<>();
            for (int r = 0; r < count; r++) {
                piles.add(new ArrayList<>());
            }
            for (int i = 0; i < row.length; i++) {
                piles.get(row[i]).add(sorted.get(i));
            }
            for (int w : told.train) {
                List<Integer> pile = piles.get(row[sorted.indexOf(w)]);
                if (pile.remove(pile.size() - 1) != w) {
                    return false;
                }
            }
            return true;
        }

        int foremen(int n, boolean first) {
            List<Integer> answers = new ArrayList<>();
            if (n > 0 && !state.hump.isEmpty()) {
                for (int r = 0; r < told.rooms.size(); r++) {
                    if (hasRoom(r)) {
                        State before = state.copy();
                        int kicks = cutNow(1, r);
                        answers.add(kicks + foremen(n - 1, !first));
                        state = before;
                    }
                }
            }
            return answers.isEmpty() ? 0 : first ? java.util.Collections.min(answers) : java.util.Collections.max(answers);
        }

        int askRest(int name, int a, int b, int c) {
            switch (name) {
                case 19:
                    if (!kind(a) || !kind(b) || couplings.size() == 8) {
                        return kind(a) && kind(b) ? FULL : UNKNOWN;
                    }
                    couplings.add(new int[] {a, b, c % 2 != 0 ? 1 : 0});
                    return couplings.size();
                case 20: return a < NONE || a > 16 ? OUTSIDE : laws(a);
                case 21: return next();
                case 22:
                    if (!road(a) || !kind(c) && c != 9) {
                        return UNKNOWN;
                    }
                    return note(chalk, 6, new int[] {a, b, c});
                case 23: return fit(a);
                case 24:
                    if (!road(a) || c != NONE && !wagon(c)) {
                        return UNKNOWN;
                    }
                    return note(book, 15, new int[] {a, b, c});
                case 25:
                    int had = couplings.size() + chalk.size() + book.size();
                    couplings.clear();
                    chalk.clear();
                    book.clear();
                    return had;
                case 26: return judge();
                case 27:
                    int was = state.seed;
                    state.seed = a < 0 ? was : a;
                    return a < 0 ? OUTSIDE : was;
                case 28:
                    if (a != 0 && a != 1) {
                        return UNKNOWN;
                    }
                    images.put(a, state.copy());
                    past.clear();
                    return 1;
                default:
                    if (a != 0 && a != 1) {
                        return UNKNOWN;
                    }
                    if (images.get(a) == null) {
                        return NOT;
                    }
                    state = images.get(a).copy();
                    past.clear();
                    return 1;
            }
        }

        int note(List<int[]> notes, int most, int[] note) {
            if (note[1] < 0 || note[1] > 6) {
                return OUTSIDE;
            }
            if (notes.size() == most) {
                return FULL;
            }
            notes.add(note);
            return notes.size();
        }

        int laws(int n) {
            Map<List<Integer>, Boolean> latest = new HashMap<>();
            for (int[] coupling : couplings) {
                latest.put(List.of(coupling[0], coupling[1]), coupling[2] == 1);
            }
            int[] counts = new int[17];
            for (int set = 0; set < 65536; set++) {
                boolean fits = true;
                for (Map.Entry<List<Integer>, Boolean> tried : latest.entrySet()) {
                    int a = tried.getKey().get(0);
                    int b = tried.getKey().get(1);
                    boolean kicks = a < 4 && b < 4 && (set >> (4 * a + b) & 1) == 1;
                    fits = fits && kicks == tried.getValue();
                }
                counts[Integer.bitCount(set)] += fits ? 1 : 0;
            }
            if (n != NONE) {
                return counts[n];
            }
            for (int least = 0; least <= 16; least++) {
                if (counts[least] > 0) {
                    return least;
                }
            }
            return NONE;
        }

        int next() {
            for (int pair = 0; pair < 16; pair++) {
                int a = pair / 4;
                int b = pair % 4;
                if (couplings.stream().noneMatch(coupling -> coupling[0] == a && coupling[1] == b)) {
                    return 10 * a + b;
                }
            }
            return NONE;
        }

        int fit(int i) {
            List<int[]> fitting = new ArrayList<>();
            for (int[] row : rows()) {
                List<List<Integer>> roads = behind(row);
                boolean fits = roads != null;
                for (int[] note : chalk) {
                    if (fits) {
                        List<Integer> road = roads.get(note[0]);
                        int there = note[1] < road.size() ? kindOf(road.get(note[1])) : 9;
                        fits = there == note[2];
                    }
                }
                if (fits) {
                    fitting.add(row);
                }
            }
            if (i == NONE) {
                return fitting.size();
            }
            if (fitting.isEmpty() || i < 0 || i >= state.hump.size()) {
                return NONE;
            }
            int sure = fitting.get(0)[i];
            return fitting.stream().allMatch(row -> row[i] == sure) ? sure : NONE;
        }

        int judge() {
            for (int n = 0; n < book.size(); n++) {
                int[] note = book.get(n);
                List<Integer> road = state.roads.get(note[0]);
                int there = note[1] < road.size() ? road.get(note[1]) : NONE;
                if (there != note[2]) {
                    return n;
                }
            }
            return NONE;
        }
    }
}
