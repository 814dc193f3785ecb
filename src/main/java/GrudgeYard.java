import java.util.Arrays;

/**
 * A hump yard whose wagons bear grudges. The document's numbered promises say what each call
 * answers; a word of the document in capitals is written small here.
 */
public final class GrudgeYard {
    public static final int NONE = -1, UNKNOWN = -1000000001, OUTSIDE = -1000000002, NOT = -1000000003, FULL = -1000000004;

    private static final int MOST_LETTERS = 230;
    private static final int MOST_ROADS = 4;
    private static final int MOST_ROOM = 7;
    private static final int MOST_WAGONS = 7;
    private static final int MOST_WEIGHT = 30;
    private static final int MOST_RUST = 20;
    private static final int MOST_GRUDGES = 10;
    private static final int KINDS = 5;
    private static final int CIRCUS = 4;
    private static final int MOST_LENGTHS = 99;
    private static final int MOST_UNDONE = 20;
    private static final int IMAGES = 2;
    private static final int MOST_COUPLINGS = 8;
    private static final int PAIRS = 16;
    private static final int MOST_CHALK = 6;
    private static final int MOST_BOOK = 15;
    private static final int NOBODY = 9;
    private static final int MOST_DRIFT = 60;
    private static final int CUTS_TO_DRIFT = 90000;
    private static final int MOST_RUSTED = 60;
    private static final int BILLION = 1000000000;
    private static final int PLAN_CUTS = -2;

    private final Reader reader = new Reader();
    private final Stand now = new Stand();
    private final Past past = new Past();
    private final Image firstImage = new Image();
    private final Image secondImage = new Image();
    private final Couplings couplings = new Couplings();
    private final Notes chalked = new Notes(MOST_CHALK);
    private final Notes book = new Notes(MOST_BOOK);
    private final Board board = new Board();
    private final Planner planner = new Planner();
    private final Fitting fitting = new Fitting();
    private Yard yardNow = new Yard();
    private Yard draft = new Yard();
    private int seedNow = 0;

    public GrudgeYard() {
    }

    // ---- the yard

    public int feed(int letter) {
        if (letter < 0 || letter > 255) {
            return OUTSIDE;
        }
        return reader.addLetter(letter) ? reader.length : FULL;
    }

    public int yard() {
        int faultNumber = reader.readInto(draft);
        if (faultNumber != 0) {
            return -10 - faultNumber;
        }
        // The two change places, so that no new yard is made for each text.
        Yard old = yardNow;
        yardNow = draft;
        draft = old;
        now.begin(yardNow.wagons);
        past.forget();
        firstImage.kept = false;
        secondImage.kept = false;
        tearAll();
        return yardNow.wagons;
    }

    public int fault() {
        return reader.faultSpot;
    }

    public int told(int what) {
        switch (what) {
            case 0: return yardNow.roads;
            case 1: return yardNow.wagons;
            case 2: return yardNow.trainLength;
            case 3: return reader.length;
            case 4: return now.countOf(Stand.HUMP);
            case 5: return now.cuts;
            case 6: return now.kicks;
            case 7: return now.firstKick;
            case 8: return couplings.count;
            case 9: return chalked.count;
            case 10: return book.count;
            case 11: return past.count;
            default: return OUTSIDE;
        }
    }

    public int wagon(int w, int what) {
        if (!yardNow.hasWagon(w)) {
            return UNKNOWN;
        }
        switch (what) {
            case 0: return yardNow.kindOf(w);
            case 1: return yardNow.weights[w];
            case 2: return yardNow.rusts[w];
            case 3: return now.roadOf(w);
            case 4: return now.placeOf(w);
            case 5: return yardNow.speedOf(w);
            default: return OUTSIDE;
        }
    }

    public int road(int r, int what) {
        if (!yardNow.hasRoad(r)) {
            return UNKNOWN;
        }
        switch (what) {
            case 0: return yardNow.roomOf(r);
            case 1: return now.countOf(r);
            case 2: return now.peaceOf(r);
            default: return OUTSIDE;
        }
    }

    public int at(int r, int i) {
        if (r == NONE) {
            return now.fromHead(i);
        }
        return yardNow.hasRoad(r) ? now.wagonAt(r, i) : UNKNOWN;
    }

    public int enemies(int a, int b) {
        if (!isKind(a) || !isKind(b)) {
            return UNKNOWN;
        }
        return yardNow.kindsKick(a, b) ? 1 : 0;
    }

    // ---- what is done

    public int cut(int k, int r) {
        if (!yardNow.hasRoad(r)) {
            return UNKNOWN;
        }
        if (k < 1 || k > MOST_WAGONS) {
            return OUTSIDE;
        }
        if (k > now.countOf(Stand.HUMP) || k > yardNow.roomOf(r) - now.countOf(r)) {
            return NOT;
        }
        past.remember(now);
        return now.letDown(yardNow, k, r);
    }

    public int pull(int r) {
        if (!yardNow.hasRoad(r)) {
            return UNKNOWN;
        }
        if (now.countOf(r) == 0) {
            return NOT;
        }
        past.remember(now);
        return now.pullUp(r);
    }

    public int peace(int r, int i) {
        if (!yardNow.hasRoad(r)) {
            return UNKNOWN;
        }
        if (i < 0 || i >= now.countOf(r) - 1 || now.hasPeace(r, i)) {
            return NOT;
        }
        past.remember(now);
        now.makePeace(r, i);
        return now.kicksBehind(yardNow, r, i) ? 1 : 0;
    }

    public int drift(int n) {
        if (n < 1 || n > MOST_DRIFT) {
            return OUTSIDE;
        }
        if (yardNow.roads == 0) {
            return NOT;
        }
        if (now.cuts > CUTS_TO_DRIFT) {
            return FULL;
        }
        past.remember(now);
        for (int i = 0; i < n; i++) {
            driftOnce(draw(yardNow.roads));
        }
        return now.cuts;
    }

    private void driftOnce(int r) {
        if (now.countOf(Stand.HUMP) == 0) {
            now.pullUp(r);
        } else if (now.countOf(r) < yardNow.roomOf(r)) {
            now.letDown(yardNow, 1, r);
        }
    }

    public int undo() {
        return past.giveBack(now) ? past.count : NOT;
    }

    // ---- tried

    public int plan(int i) {
        board.setUp(yardNow, now);
        planner.search(board);
        if (!planner.found()) {
            return NONE;
        }
        if (i == NONE) {
            return planner.bestKicks;
        }
        return i == PLAN_CUTS ? planner.bestCuts : planner.roadOf(i, board.waiting);
    }

    public int leastRoads(int w) {
        if (w != NONE && !yardNow.hasWagon(w)) {
            return UNKNOWN;
        }
        return yardNow.sortingRoad(w);
    }

    public int safe(int w, int v, int l) {
        if (!yardNow.hasWagon(w) || !yardNow.hasWagon(v) || w == v) {
            return UNKNOWN;
        }
        if (l < 1 || l > MOST_LENGTHS) {
            return OUTSIDE;
        }
        return Math.max(0, yardNow.timeOf(w, l) - yardNow.timeOf(v, l));
    }

    public int foremen(int n) {
        if (n < 1 || n > MOST_WAGONS) {
            return OUTSIDE;
        }
        board.setUp(yardNow, now);
        return foremenKicks(board, 0, Math.min(n, board.waiting));
    }

    /** What the foremen make of the i-th to the last of the wagons: at most seven levels. */
    private static int foremenKicks(Board board, int i, int end) {
        if (i >= end) {
            return 0;
        }
        boolean wantsFew = i % 2 == 0;
        int best = NONE;
        for (int r = 0; r < board.roads; r++) {
            if (!board.hasRoom(r)) {
                continue;
            }
            int lastBefore = board.lastKind(r);
            int kicks = board.put(i, r);
            kicks += foremenKicks(board, i + 1, end);
            board.takeBack(r, lastBefore);
            if (best == NONE || (wantsFew ? kicks < best : kicks > best)) {
                best = kicks;
            }
            // Nothing beats none at all, or a kick by each: the other roads need no look.
            if (best == (wantsFew ? 0 : end - i)) {
                break;
            }
        }
        return best == NONE ? 0 : best;
    }

    public int fewest(int r) {
        if (!yardNow.hasRoad(r)) {
            return UNKNOWN;
        }
        int needed = 0;
        for (int i = 0; i < now.countOf(r) - 1; i++) {
            if (!now.hasPeace(r, i) && now.kicksBehind(yardNow, r, i)) {
                needed++;
            }
        }
        return needed;
    }

    public int rusted(int n, int q) {
        if (n < 0 || n > MOST_RUSTED || q < 0 || q > 100) {
            return OUTSIDE;
        }
        long odds = BILLION;
        for (int i = 0; i < n; i++) {
            odds = odds * (100 - q) / 100;
        }
        return (int) odds;
    }

    // ---- couplings, chalk

    public int couple(int a, int b, boolean kicked) {
        if (!isKind(a) || !isKind(b)) {
            return UNKNOWN;
        }
        return couplings.add(a, b, kicked) ? couplings.count : FULL;
    }

    public int laws(int n) {
        if (n == NONE) {
            return couplings.leastLaw();
        }
        return n < 0 || n > PAIRS ? OUTSIDE : couplings.lawsOf(n);
    }

    public int next() {
        return couplings.firstUntried();
    }

    public int chalk(int r, int i, int kind) {
        if (!yardNow.hasRoad(r) || (!isKind(kind) && kind != NOBODY)) {
            return UNKNOWN;
        }
        return addNote(chalked, r, i, kind);
    }

    public int fit(int i) {
        board.setUp(yardNow, now);
        int rows = fitting.search(board, yardNow, now, chalked);
        return i == NONE ? rows : fitting.sureRoad(i, board.waiting);
    }

    public int write(int r, int i, int w) {
        if (!yardNow.hasRoad(r) || (w != NONE && !yardNow.hasWagon(w))) {
            return UNKNOWN;
        }
        return addNote(book, r, i, w);
    }

    private static int addNote(Notes notes, int r, int i, int what) {
        if (i < 0 || i >= MOST_ROOM) {
            return OUTSIDE;
        }
        return notes.add(r, i, what) ? notes.count : FULL;
    }

    public int tear() {
        int had = couplings.count + chalked.count + book.count;
        tearAll();
        return had;
    }

    private void tearAll() {
        couplings.forget();
        chalked.count = 0;
        book.count = 0;
    }

    public int judge() {
        for (int n = 0; n < book.count; n++) {
            if (now.wagonAt(book.roadOf(n), book.placeOf(n)) != book.whatOf(n)) {
                return n;
            }
        }
        return NONE;
    }

    // ---- draws, images

    public int seed(int v) {
        if (v < 0) {
            return OUTSIDE;
        }
        int old = seedNow;
        seedNow = v;
        return old;
    }

    private int draw(int n) {
        seedNow = (int) ((seedNow * 1103515245L + 12345L) & 0x7fffffffL);
        return n < 1 ? 0 : seedNow / 65536 % n;
    }

    public int keep(int i) {
        if (i < 0 || i >= IMAGES) {
            return UNKNOWN;
        }
        Image image = imageOf(i);
        image.stand.become(now);
        image.seed = seedNow;
        image.kept = true;
        past.forget();
        return 1;
    }

    public int goBack(int i) {
        if (i < 0 || i >= IMAGES) {
            return UNKNOWN;
        }
        Image image = imageOf(i);
        if (!image.kept) {
            return NOT;
        }
        now.become(image.stand);
        seedNow = image.seed;
        past.forget();
        return 1;
    }

    private Image imageOf(int i) {
        return i == 0 ? firstImage : secondImage;
    }

    private static boolean isKind(int kind) {
        return kind >= 0 && kind < KINDS;
    }

    /** The text, and how it is read into a yard up to its first fault. */
    private static final class Reader {
        private static final int MISPLACED = 1, OUT_OF_BOUNDS = 2, ONE_TOO_MANY = 3, TWICE = 4;

        private final int[] letters = new int[MOST_LETTERS];
        private int length = 0;
        private int spot = 0;
        private int numberSpot = 0;
        private int faultNumber = 0;
        private int faultSpot = NONE;

        private boolean addLetter(int letter) {
            if (length >= MOST_LETTERS) {
                return false;
            }
            letters[length] = letter;
            length++;
            return true;
        }

        /** Empties the text: the number of its fault, 0 without one. */
        private int readInto(Yard yard) {
            spot = 0;
            faultNumber = 0;
            faultSpot = NONE;
            yard.clear();
            // A clause without a fault takes a letter at least.
            for (int clauses = 0; clauses < MOST_LETTERS && !failed() && !atEnd(); clauses++) {
                readClause(yard);
            }
            length = 0;
            return faultNumber;
        }

        private void readClause(Yard yard) {
            int word = letter();
            if (!isWord(word) || (word != 'y' && yard.roads == 0)) {
                fail(MISPLACED, spot);
                return;
            }
            if (yard.isFullOf(word)) {
                fail(ONE_TOO_MANY, spot);
                return;
            }
            spot++;
            switch (word) {
                case 'y': readRoads(yard); break;
                case 'w': readWagon(yard); break;
                case 'x': readGrudge(yard); break;
                default: readTrain(yard); break;
            }
            if (!takes(';')) {
                fail(MISPLACED, spot);
            }
        }

        private static boolean isWord(int letter) {
            return letter == 'y' || letter == 'w' || letter == 'x' || letter == 't';
        }

        private void readRoads(Yard yard) {
            for (int i = 0; i < MOST_ROADS && goesOn(i); i++) {
                yard.addRoad(readNumber(1, MOST_ROOM));
            }
        }

        private void readWagon(Yard yard) {
            int kind = readNumber(0, KINDS - 1);
            int weight = readNumber(1, MOST_WEIGHT);
            int rust = readNumber(0, MOST_RUST);
            if (!failed()) {
                yard.addWagon(kind, weight, rust);
            }
        }

        private void readGrudge(Yard yard) {
            int a = readNumber(0, KINDS - 1);
            int b = readNumber(0, KINDS - 1);
            if (!failed() && !yard.addGrudge(a, b)) {
                fail(TWICE, numberSpot);
            }
        }

        private void readTrain(Yard yard) {
            // One more than there can be: that one has a fault of its own, being told twice or not yet.
            for (int i = 0; i <= MOST_WAGONS && goesOn(i); i++) {
                int w = readNumber(0, yard.wagons - 1);
                if (!failed() && !yard.addToTrain(w)) {
                    fail(TWICE, numberSpot);
                }
            }
        }

        /** Whether the i-th of a list is to be read: the ',' ahead of it is taken. */
        private boolean goesOn(int i) {
            if (failed()) {
                return false;
            }
            return i == 0 || takes(',');
        }

        private int readNumber(int least, int most) {
            skipBlanks();
            numberSpot = spot;
            int value = 0;
            while (spot < length && isFigure(letter())) {
                // Behind three figures it is a fault, whatever its value.
                if (spot - numberSpot < 3) {
                    value = value * 10 + letter() - '0';
                }
                spot++;
            }
            int figures = spot - numberSpot;
            if (figures == 0) {
                fail(MISPLACED, numberSpot);
            } else if (figures > 3 || value < least || value > most) {
                fail(OUT_OF_BOUNDS, numberSpot);
            }
            return value;
        }

        private boolean takes(int sign) {
            skipBlanks();
            if (letter() != sign) {
                return false;
            }
            spot++;
            return true;
        }

        private boolean atEnd() {
            skipBlanks();
            return spot >= length;
        }

        private void skipBlanks() {
            while (spot < length && letter() == ' ') {
                spot++;
            }
        }

        /** The letter to be read next; NONE at the end. */
        private int letter() {
            return spot >= 0 && spot < length && spot < MOST_LETTERS ? letters[spot] : NONE;
        }

        private static boolean isFigure(int letter) {
            return letter >= '0' && letter <= '9';
        }

        private boolean failed() {
            return faultNumber != 0;
        }

        /** The first fault stays: what is read behind it tells nothing. */
        private void fail(int number, int where) {
            if (faultNumber == 0) {
                faultNumber = number;
                faultSpot = where;
            }
        }
    }

    /** What a text tells; nothing of it changes until another text is read. */
    private static final class Yard {
        private final int[] rooms = new int[MOST_ROADS];
        private final int[] kinds = new int[MOST_WAGONS];
        private final int[] weights = new int[MOST_WAGONS];
        private final int[] rusts = new int[MOST_WAGONS];
        /** When each wagon is to be drawn; NONE: of no train. */
        private final int[] turns = new int[MOST_WAGONS];
        /** For leastRoads: the turn of the last wagon in each road. */
        private final int[] lastTurns = new int[MOST_WAGONS];
        private int roads = 0;
        private int wagons = 0;
        private int grudges = 0;
        private int trainLength = 0;

        private void clear() {
            roads = 0;
            wagons = 0;
            grudges = 0;
            trainLength = 0;
        }

        private boolean isFullOf(int word) {
            switch (word) {
                case 'y': return roads > 0;
                case 'w': return wagons >= MOST_WAGONS;
                case 'x': return Integer.bitCount(grudges) >= MOST_GRUDGES;
                default: return trainLength > 0;
            }
        }

        private void addRoad(int room) {
            if (roads < MOST_ROADS) {
                rooms[roads] = room;
                roads++;
            }
        }

        private void addWagon(int kind, int weight, int rust) {
            if (wagons < MOST_WAGONS) {
                kinds[wagons] = kind;
                weights[wagons] = weight;
                rusts[wagons] = rust;
                turns[wagons] = NONE;
                wagons++;
            }
        }

        private boolean addGrudge(int a, int b) {
            int pair = pairBit(a, b);
            boolean isNew = (grudges & pair) == 0;
            grudges |= pair;
            return isNew;
        }

        private boolean addToTrain(int w) {
            if (!hasWagon(w) || turns[w] != NONE) {
                return false;
            }
            turns[w] = trainLength;
            trainLength++;
            return true;
        }

        private boolean hasRoad(int r) {
            return r >= 0 && r < roads && r < MOST_ROADS;
        }

        private boolean hasWagon(int w) {
            return w >= 0 && w < wagons && w < MOST_WAGONS;
        }

        private int roomOf(int r) {
            return hasRoad(r) ? rooms[r] : 0;
        }

        /** A wagon that there is not counts as a circus: nobody kicks by it. */
        private int kindOf(int w) {
            return hasWagon(w) ? kinds[w] : CIRCUS;
        }

        private boolean kindsKick(int a, int b) {
            return kickBy(grudges, a, b);
        }

        private static boolean kickBy(int grudges, int a, int b) {
            return a != CIRCUS && b != CIRCUS && (grudges & pairBit(a, b)) != 0;
        }

        private int speedOf(int w) {
            return hasWagon(w) ? 60 + weights[w] - 2 * rusts[w] : 0;
        }

        private int timeOf(int w, int lengths) {
            int speed = speedOf(w);
            return speed == 0 ? 0 : 100 * lengths / speed;
        }

        /**
         * The road that sorts a wagon into the train, for NONE how many there are. In a road each
         * wagon must be drawn ahead of all that are deeper; the first road that allows it gives the
         * fewest roads and the first of all such rows at once, as when cards are sorted in piles.
         */
        private int sortingRoad(int w) {
            int used = 0;
            for (int v = 0; v < wagons && v < MOST_WAGONS; v++) {
                int r = turns[v] == NONE ? NONE : firstRoadFor(turns[v], used);
                if (v == w) {
                    return r;
                }
                if (r >= 0 && r < MOST_WAGONS) {
                    lastTurns[r] = turns[v];
                    used = Math.max(used, r + 1);
                }
            }
            return used;
        }

        private int firstRoadFor(int turn, int used) {
            for (int r = 0; r < used && r < MOST_WAGONS; r++) {
                if (lastTurns[r] > turn) {
                    return r;
                }
            }
            return used;
        }

        private static int pairBit(int a, int b) {
            return 1 << (a * KINDS + b);
        }
    }

    /** All that is done in a yard and can be undone: who stands where, peace, cuts and kicks. */
    private static final class Stand {
        /** The roads' lines come first; the hump is one line more, a pile with its head on top. */
        private static final int HUMP = MOST_ROADS, LINES = MOST_ROADS + 1;

        private final int[] wagons = new int[LINES * MOST_WAGONS];
        private final int[] counts = new int[LINES];
        private final int[] peaces = new int[LINES];
        private int cuts = 0;
        private int kicks = 0;
        private int firstKick = NONE;

        private void begin(int wagonsTold) {
            Arrays.fill(counts, 0);
            Arrays.fill(peaces, 0);
            cuts = 0;
            kicks = 0;
            firstKick = NONE;
            for (int w = wagonsTold - 1; w >= 0; w--) {
                push(HUMP, w);
            }
        }

        private void become(Stand other) {
            System.arraycopy(other.wagons, 0, wagons, 0, wagons.length);
            System.arraycopy(other.counts, 0, counts, 0, counts.length);
            System.arraycopy(other.peaces, 0, peaces, 0, peaces.length);
            cuts = other.cuts;
            kicks = other.kicks;
            firstKick = other.firstKick;
        }

        private static boolean isLine(int line) {
            return line >= 0 && line < LINES;
        }

        private int countOf(int line) {
            return isLine(line) ? counts[line] : 0;
        }

        private int peaceOf(int line) {
            return isLine(line) ? peaces[line] : 0;
        }

        private int wagonAt(int line, int place) {
            if (place < 0 || place >= countOf(line) || place >= MOST_WAGONS) {
                return NONE;
            }
            return wagons[line * MOST_WAGONS + place];
        }

        private int fromHead(int i) {
            return wagonAt(HUMP, countOf(HUMP) - 1 - i);
        }

        private int lastIn(int line) {
            return wagonAt(line, countOf(line) - 1);
        }

        private int roadOf(int w) {
            int line = lineOf(w);
            return line == HUMP ? NONE : line;
        }

        private int placeOf(int w) {
            int line = lineOf(w);
            for (int place = 0; place < countOf(line); place++) {
                if (wagonAt(line, place) == w) {
                    return line == HUMP ? countOf(HUMP) - 1 - place : place;
                }
            }
            return NONE;
        }

        private int lineOf(int w) {
            for (int line = 0; line < MOST_ROADS; line++) {
                for (int place = 0; place < countOf(line); place++) {
                    if (wagonAt(line, place) == w) {
                        return line;
                    }
                }
            }
            return HUMP;
        }

        private void push(int line, int w) {
            int place = countOf(line);
            if (isLine(line) && place < MOST_WAGONS) {
                wagons[line * MOST_WAGONS + place] = w;
                counts[line]++;
            }
        }

        /** A cut of k wagons that are there into a road with room: how many kick. */
        private int letDown(Yard yard, int k, int r) {
            int kicksBefore = kicks;
            for (int i = 0; i < k && countOf(HUMP) > 0; i++) {
                int ahead = lastIn(r);
                int runner = lastIn(HUMP);
                counts[HUMP]--;
                push(r, runner);
                countKick(yard, ahead, runner);
            }
            cuts++;
            return kicks - kicksBefore;
        }

        private void countKick(Yard yard, int ahead, int runner) {
            if (!yard.kindsKick(yard.kindOf(ahead), yard.kindOf(runner))) {
                return;
            }
            kicks++;
            if (firstKick == NONE) {
                firstKick = 10 * ahead + runner;
            }
        }

        private int pullUp(int r) {
            int pulled = countOf(r);
            for (int place = 0; place < pulled; place++) {
                push(HUMP, wagonAt(r, place));
            }
            if (isLine(r)) {
                counts[r] = 0;
                peaces[r] = 0;
            }
            return pulled;
        }

        private boolean hasPeace(int r, int i) {
            return (peaceOf(r) & (1 << i)) != 0;
        }

        private void makePeace(int r, int i) {
            if (isLine(r)) {
                peaces[r] |= 1 << i;
            }
        }

        /** Whether the i-th of a road and the one behind it kick, left to themselves. */
        private boolean kicksBehind(Yard yard, int r, int i) {
            return yard.kindsKick(yard.kindOf(wagonAt(r, i)), yard.kindOf(wagonAt(r, i + 1)));
        }
    }

    /** What can be undone: a ring in which the oldest makes way for the newest. */
    private static final class Past {
        private final Stand[] ring = new Stand[MOST_UNDONE];
        private int count = 0;
        private int newest = 0;

        private Past() {
            for (int i = 0; i < MOST_UNDONE; i++) {
                ring[i] = new Stand();
            }
        }

        private void forget() {
            count = 0;
        }

        private void remember(Stand now) {
            newest = (newest + 1) % MOST_UNDONE;
            ring[newest].become(now);
            count = Math.min(count + 1, MOST_UNDONE);
        }

        private boolean giveBack(Stand now) {
            if (count == 0) {
                return false;
            }
            now.become(ring[newest]);
            newest = (newest + MOST_UNDONE - 1) % MOST_UNDONE;
            count--;
            return true;
        }
    }

    private static final class Image {
        private final Stand stand = new Stand();
        private int seed = 0;
        private boolean kept = false;
    }

    /** Couplings tried. Of two kinds only the latest counts, so two sets of pairs hold them all. */
    private static final class Couplings {
        private int count = 0;
        private int tried = 0;
        private int kicked = 0;

        private void forget() {
            count = 0;
            tried = 0;
            kicked = 0;
        }

        private boolean add(int a, int b, boolean itKicked) {
            if (count >= MOST_COUPLINGS) {
                return false;
            }
            int pair = Yard.pairBit(a, b);
            tried |= pair;
            kicked = itKicked ? kicked | pair : kicked & ~pair;
            count++;
            return true;
        }

        private int leastLaw() {
            return circusKicked() ? NONE : pairsIn(kicked);
        }

        /** What kicked is in each law; of what was not tried, any may be in it. */
        private int lawsOf(int n) {
            return circusKicked() ? 0 : choose(PAIRS - pairsIn(tried), n - pairsIn(kicked));
        }

        private int firstUntried() {
            for (int a = 0; a < CIRCUS; a++) {
                for (int b = 0; b < CIRCUS; b++) {
                    if ((tried & Yard.pairBit(a, b)) == 0) {
                        return 10 * a + b;
                    }
                }
            }
            return NONE;
        }

        private boolean circusKicked() {
            return Integer.bitCount(kicked) > pairsIn(kicked);
        }

        /** How many pairs of a set are without a circus. */
        private static int pairsIn(int set) {
            int pairs = 0;
            for (int a = 0; a < CIRCUS; a++) {
                for (int b = 0; b < CIRCUS; b++) {
                    if ((set & Yard.pairBit(a, b)) != 0) {
                        pairs++;
                    }
                }
            }
            return pairs;
        }

        private static int choose(int n, int k) {
            if (k < 0 || k > n) {
                return 0;
            }
            int ways = 1;
            for (int i = 1; i <= k; i++) {
                // Each step is a whole number: the ways to choose i of n - k + i.
                ways = ways * (n - k + i) / i;
            }
            return ways;
        }
    }

    /** Rows of what somebody says of a road's place: chalk tells a kind, the book a wagon. */
    private static final class Notes {
        private final int[] roads;
        private final int[] places;
        private final int[] whats;
        private int count = 0;

        private Notes(int most) {
            int length = Math.max(most, 0);
            roads = new int[length];
            places = new int[length];
            whats = new int[length];
        }

        private boolean add(int r, int i, int what) {
            if (count >= roads.length) {
                return false;
            }
            roads[count] = r;
            places[count] = i;
            whats[count] = what;
            count++;
            return true;
        }

        private boolean has(int n) {
            return n >= 0 && n < count && n < roads.length;
        }

        private int roadOf(int n) {
            return has(n) ? roads[n] : NONE;
        }

        private int placeOf(int n) {
            return has(n) ? places[n] : NONE;
        }

        private int whatOf(int n) {
            return has(n) ? whats[n] : NONE;
        }
    }

    /** What stands now, as a search needs it, to put wagons down on and take them back. */
    private static final class Board {
        private final int[] kinds = new int[MOST_WAGONS];
        private final int[] rooms = new int[MOST_ROADS];
        private final int[] counts = new int[MOST_ROADS];
        /** The kind of the last wagon in each road; a road without one is as good as a circus. */
        private final int[] lasts = new int[MOST_ROADS];
        private int roads = 0;
        private int waiting = 0;
        private int grudges = 0;

        private void setUp(Yard yard, Stand now) {
            roads = Math.min(yard.roads, MOST_ROADS);
            waiting = Math.min(now.countOf(Stand.HUMP), MOST_WAGONS);
            for (int i = 0; i < waiting; i++) {
                kinds[i] = yard.kindOf(now.fromHead(i));
            }
            for (int r = 0; r < roads; r++) {
                rooms[r] = yard.roomOf(r);
                counts[r] = now.countOf(r);
                lasts[r] = yard.kindOf(now.lastIn(r));
            }
            grudges = yard.grudges;
        }

        private boolean hasRoad(int r) {
            return r >= 0 && r < roads && r < MOST_ROADS;
        }

        private boolean hasRoom(int r) {
            return hasRoad(r) && counts[r] < rooms[r];
        }

        private int countOf(int r) {
            return hasRoad(r) ? counts[r] : 0;
        }

        private int lastKind(int r) {
            return hasRoad(r) ? lasts[r] : CIRCUS;
        }

        private int kindOf(int i) {
            return i >= 0 && i < waiting && i < MOST_WAGONS ? kinds[i] : CIRCUS;
        }

        /** Puts the i-th from the head into a road: 1 if it kicks, else 0. */
        private int put(int i, int r) {
            if (!hasRoad(r)) {
                return 0;
            }
            int ahead = lasts[r];
            counts[r]++;
            lasts[r] = kindOf(i);
            return Yard.kickBy(grudges, ahead, lasts[r]) ? 1 : 0;
        }

        private void takeBack(int r, int lastBefore) {
            if (hasRoad(r)) {
                counts[r]--;
                lasts[r] = lastBefore;
            }
        }
    }

    /** Finds the plan: rows of roads are tried in their order, and only a better one takes over. */
    private static final class Planner {
        /** More kicks than there are wagons: no plan yet. */
        private static final int NO_PLAN = MOST_WAGONS + 1;

        private final int[] row = new int[MOST_WAGONS];
        private final int[] best = new int[MOST_WAGONS];
        private int bestKicks = NO_PLAN;
        private int bestCuts = 0;

        private void search(Board board) {
            bestKicks = NO_PLAN;
            bestCuts = 0;
            extend(board, 0, 0, 0);
        }

        private boolean found() {
            return bestKicks < NO_PLAN;
        }

        private int roadOf(int i, int waiting) {
            return i >= 0 && i < waiting && i < MOST_WAGONS ? best[i] : NONE;
        }

        /** The i-th wagon and all behind it: at most seven levels. */
        private void extend(Board board, int i, int kicks, int cuts) {
            boolean better = kicks < bestKicks || (kicks == bestKicks && cuts < bestCuts);
            if (!better) {
                return;
            }
            if (i >= board.waiting || i >= MOST_WAGONS) {
                bestKicks = kicks;
                bestCuts = cuts;
                System.arraycopy(row, 0, best, 0, MOST_WAGONS);
                return;
            }
            for (int r = 0; r < board.roads; r++) {
                if (board.hasRoom(r)) {
                    int lastBefore = board.lastKind(r);
                    int kick = board.put(i, r);
                    boolean sameCut = i > 0 && row[i - 1] == r;
                    row[i] = r;
                    extend(board, i + 1, kicks + kick, sameCut ? cuts : cuts + 1);
                    board.takeBack(r, lastBefore);
                }
            }
        }
    }

    /** Counts the rows of roads by which all chalk is so. */
    private static final class Fitting {
        private static final int ANYBODY = -1;
        /** Two chalks that gainsay each other: neither a kind nor nobody will do. */
        private static final int NEVER = -2;
        /** A key has three bits a road: how many of the wagons have been put there. */
        private static final int KEY_BITS = 3, KEYS = 1 << (KEY_BITS * MOST_ROADS);

        /** The rows for the rest, by key, for they hang on nothing else; NONE: not counted yet. */
        private final int[] counted = new int[KEYS];
        private final int[] wanted = new int[MOST_ROADS * MOST_ROOM];
        /** The set of roads into which each wagon goes in rows that fit. */
        private final int[] roadSets = new int[MOST_WAGONS];

        private int search(Board board, Yard yard, Stand now, Notes chalk) {
            Arrays.fill(counted, NONE);
            Arrays.fill(wanted, ANYBODY);
            Arrays.fill(roadSets, 0);
            for (int n = 0; n < chalk.count; n++) {
                want(chalk.roadOf(n), chalk.placeOf(n), chalk.whatOf(n));
            }
            int open = 0;
            for (int r = 0; r < board.roads; r++) {
                for (int place = 0; place < MOST_ROOM; place++) {
                    int kind = wantedAt(r, place);
                    if (place >= now.countOf(r)) {
                        open += needsWagon(kind) ? 1 : 0;
                    } else if (kind != ANYBODY && kind != yard.kindOf(now.wagonAt(r, place))) {
                        return 0;
                    }
                }
            }
            return rowsFrom(board, 0, open, 0);
        }

        private void want(int r, int place, int kind) {
            if (!isPlace(r, place)) {
                return;
            }
            int old = wanted[r * MOST_ROOM + place];
            wanted[r * MOST_ROOM + place] = old == ANYBODY || old == kind ? kind : NEVER;
        }

        private static boolean isPlace(int r, int place) {
            return r >= 0 && r < MOST_ROADS && place >= 0 && place < MOST_ROOM;
        }

        private int wantedAt(int r, int place) {
            return isPlace(r, place) ? wanted[r * MOST_ROOM + place] : ANYBODY;
        }

        private static boolean needsWagon(int kind) {
            return kind != ANYBODY && kind != NOBODY;
        }

        /** Rows for the i-th wagon and all behind it, open places still needing one: at most seven levels. */
        private int rowsFrom(Board board, int i, int open, int key) {
            if (open > board.waiting - i) {
                return 0;
            }
            if (i >= board.waiting || i >= MOST_WAGONS || key < 0 || key >= KEYS) {
                return 1;
            }
            if (counted[key] == NONE) {
                counted[key] = countRows(board, i, open, key);
            }
            return counted[key];
        }

        private int countRows(Board board, int i, int open, int key) {
            int rows = 0;
            for (int r = 0; r < board.roads; r++) {
                int kind = wantedAt(r, board.countOf(r));
                if (board.hasRoom(r) && (kind == ANYBODY || kind == board.kindOf(i))) {
                    int lastBefore = board.lastKind(r);
                    board.put(i, r);
                    int more = rowsFrom(board, i + 1, kind == ANYBODY ? open : open - 1, key + (1 << (KEY_BITS * r)));
                    board.takeBack(r, lastBefore);
                    roadSets[i] |= more > 0 ? 1 << r : 0;
                    rows += more;
                }
            }
            return rows;
        }

        private int sureRoad(int i, int waiting) {
            if (i < 0 || i >= waiting || i >= MOST_WAGONS || Integer.bitCount(roadSets[i]) != 1) {
                return NONE;
            }
            return Integer.numberOfTrailingZeros(roadSets[i]);
        }
    }
}
