import java.util.List;

/**
 * The document's section 2 and promises 5 to 14, sentence by sentence: each that names a bound, a
 * refusal, or what is kept and what is gone, has a test of its own, which begins with its words.
 */
public final class DoneBoundsTest extends YardTest {
    /** Kinds 0 0 1 1 0 0 1; a 0 kicks behind a 0, a 1 behind a 0; no other. */
    private static final String MIXED =
        "y7,7;w0 1 0;w0 1 0;w1 1 0;w1 1 0;w0 1 0;w0 1 0;w1 1 0;x0 0;x0 1;";

    public static void main(String[] args) {
        wholeCalls();
        circusByAnybody();
        behindThoseThatAreThere();
        rightAheadAlone();
        firstKickIsKept();
        cutsIntoOneRoad();
        pulledInOrder();
        pullsAreNoCuts();
        peaceTakesNoRoom();
        peaceIsGoneWhenPulled();
        noKickByPeace();
        speeds();
        toldBounds();
        wagonBounds();
        roadBounds();
        peaceSets();
        atBounds();
        enemiesBounds();
        cutBounds();
        cutWithoutWagonsOrRoom();
        pullBounds();
        peaceBounds();
        driftBounds();
        driftWithoutRoads();
        driftOfManyCuts();
        driftDoes();
        undoOfNone();
        undoOfEach();
        twentyAreKept();
        refusedAreNotKept();
        seedStays();
        undoneAndDoneAnew();
        end("the bounds of what is done hold");
    }

    private static void wholeCalls() {
        says("An object is used for at most 512 calls after it has been made");
        GrudgeYard x = of(SEVEN);
        int calls = SEVEN.length() + 1;
        for (int cuts = 1; calls < 510; cuts++) {
            due("cut " + cuts, x.cut(7, cuts % 4), 6);
            due("pull " + cuts, x.pull(cuts % 4), 7);
            due("cuts behind pull " + cuts, x.told(5), cuts);
            calls += 3;
        }
        due("call " + calls, x.told(6), 6 * x.told(5));
    }

    private static void circusByAnybody() {
        says("KIND 4 is a CIRCUS: it stands by anybody, whatever 'x' tells.");
        String text = "y7;w0 1 0;w4 1 0;w1 1 0;w4 1 0;w4 1 0;w2 1 0;w4 1 0;"
            + "x0 4;x1 4;x2 4;x3 4;x4 0;x4 1;x4 2;x4 3;x4 4;";
        GrudgeYard x = of(text);
        for (int kind = 0; kind <= 4; kind++) {
            due("enemies(4, " + kind + ")", x.enemies(4, kind), 0);
            due("enemies(" + kind + ", 4)", x.enemies(kind, 4), 0);
        }
        due("plan(-1)", x.plan(NONE), 0);
        due("foremen(7)", x.foremen(7), 0);
        due("cut(7, 0)", x.cut(7, 0), 0);
        due("fewest(0)", x.fewest(0), 0);
        due("peace(0, 0)", x.peace(0, 0), 0);
        due("the first kick", x.told(7), NONE);
        due("pull(0)", x.pull(0), 7);
        due("cut(7, 0) the other way round", x.cut(7, 0), 0);
    }

    private static void behindThoseThatAreThere() {
        says("A WAGON let down a ROAD stands behind those that are there (these are deeper)");
        GrudgeYard x = of(MIXED);
        x.cut(2, 0);
        x.cut(1, 1);
        x.cut(3, 0);
        dueRoad("the deepest first", x, 0, 0, 1, 3, 4, 5);
        dueRoad("the other road", x, 1, 2);
        dueHump("the rest", x, 6);
    }

    private static void rightAheadAlone() {
        says("a KICK, if the one right ahead of it will not stand so.");
        GrudgeYard x = of(MIXED);
        due("nobody is ahead", x.cut(1, 0), 0);
        due("0 behind 0", x.cut(1, 0), 1);
        due("1 behind 0", x.cut(1, 0), 1);
        due("1 behind 1", x.cut(1, 0), 0);
        due("0 behind 1, another 0 further ahead", x.cut(1, 0), 0);
        due("0 in another road", x.cut(1, 1), 0);
        due("1 behind 0 there", x.cut(1, 1), 1);
        due("kicks in all", x.told(6), 3);
    }

    private static void firstKickIsKept() {
        says("KICKS are counted; the first one is kept (10 times the deeper WAGON and the other).");
        GrudgeYard x = of(MIXED);
        x.cut(1, 0);
        due("none yet", x.told(7), NONE);
        x.cut(1, 0);
        due("the first one", x.told(7), 1);
        x.cut(5, 0);
        due("kicks", x.told(6), 4);
        due("it stays", x.told(7), 1);
        x.pull(0);
        due("it stays behind a pull", x.told(7), 1);
        due("kicks stay behind a pull", x.told(6), 4);
        GrudgeYard back = of(SEVEN);
        back.cut(1, 0);
        back.cut(1, 1);
        back.cut(1, 2);
        back.cut(1, 3);
        back.pull(2);
        back.cut(1, 3);
        due("the deeper one has the greater number", back.told(7), 32);
    }

    private static void cutsIntoOneRoad() {
        says("A CUT: k WAGONS from the head of the HUMP, one behind the other, into one ROAD.");
        GrudgeYard x = of(SEVEN);
        due("cut(7, 3)", x.cut(7, 3), 6);
        dueRoad("all seven", x, 3, 0, 1, 2, 3, 4, 5, 6);
        dueHump("none", x);
        due("one cut", x.told(5), 1);
    }

    private static void pulledInOrder() {
        says("PULLED: all of a ROAD go back to the head of the HUMP, the last one in it first of all.");
        GrudgeYard x = of(SEVEN);
        x.cut(3, 0);
        x.cut(2, 1);
        x.pull(0);
        dueHump("ahead of those that wait", x, 2, 1, 0, 5, 6);
        dueRoad("it is empty", x, 0);
        dueRoad("the other one stays", x, 1, 3, 4);
        due("wagon(2, 4)", x.wagon(2, 4), 0);
        due("wagon(5, 4)", x.wagon(5, 4), 3);
        x.cut(5, 2);
        x.pull(2);
        dueHump("all of an empty hump", x, 6, 5, 0, 1, 2);
    }

    private static void pullsAreNoCuts() {
        says("CUTS are counted (PULLS are none).");
        GrudgeYard x = of(SEVEN);
        due("none yet", x.told(5), 0);
        x.cut(7, 0);
        due("of seven", x.told(5), 1);
        x.pull(0);
        due("behind a pull", x.told(5), 1);
        x.cut(1, 0);
        x.cut(1, 0);
        due("of one each", x.told(5), 3);
    }

    private static void peaceTakesNoRoom() {
        says("a CIRCUS stands that is no WAGON, takes no room");
        GrudgeYard x = of("y3;w0 1 0;w0 1 0;w0 1 0;w0 1 0;x0 0;");
        x.cut(2, 0);
        x.peace(0, 0);
        due("how many stand there", x.road(0, 1), 2);
        due("how many wagons", x.told(1), 4);
        due("the second", x.at(0, 1), 1);
        due("there is room for a third", x.cut(1, 0), 1);
        x.peace(0, 1);
        due("there is none for a fourth", x.cut(1, 0), NOT);
        due("pull(0)", x.pull(0), 3);
    }

    private static void noKickByPeace() {
        says("no KICK is there any more");
        GrudgeYard x = of(SEVEN);
        x.cut(7, 0);
        due("fewest(0)", x.fewest(0), 6);
        for (int i = 0; i < 6; i++) {
            due("peace(0, " + i + ")", x.peace(0, i), 1);
            due("fewest(0) behind it", x.fewest(0), 5 - i);
        }
        due("what was counted stays", x.told(6), 6);
        due("the first kick stays", x.told(7), 1);
    }

    private static void peaceIsGoneWhenPulled() {
        says("it is gone, when the ROAD is PULLED.");
        GrudgeYard x = of(SEVEN);
        x.cut(3, 0);
        x.cut(3, 1);
        x.peace(0, 0);
        x.peace(1, 1);
        x.cut(1, 0);
        due("it stays when one comes behind", x.road(0, 2), 1);
        x.pull(0);
        due("it is gone", x.road(0, 2), 0);
        due("the other road's stays", x.road(1, 2), 2);
        due("they kick again", x.cut(4, 0), 3);
        due("none is there", x.fewest(0), 3);
        due("peace can be made anew", x.peace(0, 0), 1);
    }

    private static void speeds() {
        says("SPEED of a WAGON: 60 and WEIGHT less 2 times RUST.");
        due("the slowest", of("y1;w0 1 20;").wagon(0, 5), 21);
        due("the fastest", of("y1;w0 30 0;").wagon(0, 5), 90);
        due("weight and rust", of("y1;w0 30 20;").wagon(0, 5), 50);
    }

    private static void toldBounds() {
        says("0 ROADS, 1 WAGONS, 2 how long the TRAIN wanted is");
        GrudgeYard x = of(SIX);
        int[] outside = {NONE, 12, 13, -2, LOW, HIGH};
        for (int what : outside) {
            due("told(" + what + ")", x.told(what), OUTSIDE);
        }
        feedAll(x, "ab");
        x.cut(2, 0);
        x.peace(0, 0);
        x.cut(1, 0);
        x.couple(0, 0, true);
        x.chalk(0, 0, 0);
        x.chalk(0, 0, 0);
        x.write(0, 0, 0);
        x.write(0, 0, 0);
        x.write(0, 0, 0);
        dueTold("each apart", x, 3, 6, 4, 2, 3, 2, 2, 1, 1, 2, 3, 3);
    }

    private static void wagonBounds() {
        says("3 its ROAD (NONE: on the HUMP), 4 its place there (on the HUMP: from the head)");
        GrudgeYard x = of(SIX);
        x.cut(2, 2);
        int[][] want = {{0, 2, 0}, {1, 2, 1}, {2, NONE, 0}, {5, NONE, 3}};
        for (int[] row : want) {
            due("wagon(" + row[0] + ", 3)", x.wagon(row[0], 3), row[1]);
            due("wagon(" + row[0] + ", 4)", x.wagon(row[0], 4), row[2]);
        }
        says("`int wagon(int w, int what)`");
        int[] unknown = {NONE, 6, 7, LOW, HIGH};
        for (int w : unknown) {
            due("wagon(" + w + ", 0)", x.wagon(w, 0), UNKNOWN);
            due("wagon(" + w + ", 6)", x.wagon(w, 6), UNKNOWN);
        }
        int[] outside = {NONE, 6, LOW, HIGH};
        for (int what : outside) {
            due("wagon(5, " + what + ")", x.wagon(5, what), OUTSIDE);
        }
    }

    private static void roadBounds() {
        says("`int road(int r, int what)`");
        GrudgeYard x = of(SIX);
        int[] unknown = {NONE, 3, 4, LOW, HIGH};
        for (int r : unknown) {
            due("road(" + r + ", 0)", x.road(r, 0), UNKNOWN);
            due("road(" + r + ", 3)", x.road(r, 3), UNKNOWN);
        }
        int[] outside = {NONE, 3, LOW, HIGH};
        for (int what : outside) {
            due("road(2, " + what + ")", x.road(2, what), OUTSIDE);
        }
        due("the last road", x.road(2, 0), 4);
        due("the fourth of four", of(SEVEN).road(3, 0), 7);
        due("a fifth of four", of(SEVEN).road(4, 0), UNKNOWN);
    }

    private static void peaceSets() {
        says("A SET is a whole number, bit k for k.");
        GrudgeYard x = of(SEVEN);
        x.cut(7, 1);
        due("none", x.road(1, 2), 0);
        x.peace(1, 5);
        due("the last place", x.road(1, 2), 32);
        x.peace(1, 0);
        due("the first place", x.road(1, 2), 33);
        for (int i = 1; i < 5; i++) {
            x.peace(1, i);
        }
        due("all places", x.road(1, 2), 63);
        due("another road", x.road(0, 2), 0);
    }

    private static void atBounds() {
        says("The i-th WAGON on the HUMP from the head (r NONE), in a ROAD (0: the deepest); NONE. UNKNOWN.");
        GrudgeYard x = of(SIX);
        x.cut(4, 2);
        int[] nobody = {NONE, 4, 7, LOW, HIGH};
        for (int i : nobody) {
            due("at(2, " + i + ")", x.at(2, i), NONE);
            due("at(-1, " + i + ")", x.at(NONE, i), NONE);
            due("at(0, " + i + ")", x.at(0, i), NONE);
        }
        dueRoad("a full road", x, 2, 0, 1, 2, 3);
        dueRoad("an empty road", x, 0);
        dueHump("the hump", x, 4, 5);
        int[] unknown = {-2, 3, 4, LOW, HIGH};
        for (int r : unknown) {
            due("at(" + r + ", 0)", x.at(r, 0), UNKNOWN);
            due("at(" + r + ", -1)", x.at(r, NONE), UNKNOWN);
        }
    }

    private static void enemiesBounds() {
        says("1: KIND a will not stand right ahead of KIND b; 0. UNKNOWN.");
        GrudgeYard x = of("y1;x0 3;x3 3;");
        due("enemies(0, 3)", x.enemies(0, 3), 1);
        due("enemies(3, 0)", x.enemies(3, 0), 0);
        due("enemies(3, 3)", x.enemies(3, 3), 1);
        int[] unknown = {NONE, 5, 9, LOW, HIGH};
        for (int kind : unknown) {
            due("enemies(" + kind + ", 0)", x.enemies(kind, 0), UNKNOWN);
            due("enemies(0, " + kind + ")", x.enemies(0, kind), UNKNOWN);
            due("enemies(4, " + kind + ")", x.enemies(4, kind), UNKNOWN);
        }
        due("without a yard", new GrudgeYard().enemies(4, 4), 0);
    }

    private static void cutBounds() {
        says("OUTSIDE (k 1 .. 7)");
        GrudgeYard x = of(SEVEN);
        int[] outside = {0, 8, NONE, LOW, HIGH};
        for (int k : outside) {
            due("cut(" + k + ", 0)", x.cut(k, 0), OUTSIDE);
        }
        due("cut(7, 0)", x.cut(7, 0), 6);
        due("cut(8, 0) of none", x.cut(8, 0), OUTSIDE);
        due("cut(1, 0) of none", x.cut(1, 0), NOT);
        x.pull(0);
        due("cut(1, 0)", x.cut(1, 0), 0);
        says("`int cut(int k, int r)`");
        int[] unknown = {NONE, 4, LOW, HIGH};
        for (int r : unknown) {
            due("cut(1, " + r + ")", x.cut(1, r), UNKNOWN);
            due("cut(0, " + r + ")", x.cut(0, r), UNKNOWN);
        }
    }

    private static void cutWithoutWagonsOrRoom() {
        says("NOT: there are not so many, no room.");
        GrudgeYard few = of("y7;w0 1 0;w0 1 0;w0 1 0;x0 0;");
        due("four of three", few.cut(4, 0), NOT);
        due("three of three", few.cut(3, 0), 2);
        due("one of none", few.cut(1, 0), NOT);
        GrudgeYard narrow = of("y3,1;w0 1 0;w0 1 0;w0 1 0;w0 1 0;w0 1 0;x0 0;");
        due("four into three", narrow.cut(4, 0), NOT);
        due("two into one", narrow.cut(2, 1), NOT);
        due("two into three", narrow.cut(2, 0), 1);
        due("two into one more", narrow.cut(2, 0), NOT);
        due("one into one more", narrow.cut(1, 0), 1);
        due("one into a full road", narrow.cut(1, 0), NOT);
        due("one into one", narrow.cut(1, 1), 0);
        due("one into a full road of one", narrow.cut(1, 1), NOT);
        dueTold("what was done", narrow, 2, 5, 0, 0, 1, 3, 2, 1, 0, 0, 0, 3);
    }

    private static void pullBounds() {
        says("PULLED: how many WAGONS. UNKNOWN, NOT: none is there.");
        GrudgeYard x = of(SEVEN);
        due("pull(3) of none", x.pull(3), NOT);
        x.cut(1, 3);
        due("pull(3) of one", x.pull(3), 1);
        due("pull(3) again", x.pull(3), NOT);
        x.cut(7, 3);
        due("pull(3) of seven", x.pull(3), 7);
        int[] unknown = {NONE, 4, LOW, HIGH};
        for (int r : unknown) {
            due("pull(" + r + ")", x.pull(r), UNKNOWN);
        }
    }

    private static void peaceBounds() {
        says("NOT: no two stand there so, there is PEACE.");
        GrudgeYard x = of(MIXED);
        due("nobody is there", x.peace(0, 0), NOT);
        x.cut(1, 0);
        due("one is there", x.peace(0, 0), NOT);
        x.cut(2, 0);
        due("behind the last", x.peace(0, 2), NOT);
        int[] nowhere = {NONE, 3, 6, 7, 31, 32, 33, 64, LOW, HIGH};
        for (int i : nowhere) {
            due("peace(0, " + i + ")", x.peace(0, i), NOT);
        }
        due("there it kicked", x.peace(0, 1), 1);
        due("there is peace", x.peace(0, 1), NOT);
        x.cut(4, 0);
        due("there it did not", x.peace(0, 3), 0);
        due("there is peace too", x.peace(0, 3), NOT);
        due("behind the last but one", x.peace(0, 5), 1);
        due("behind the seventh", x.peace(0, 6), NOT);
        due("in the other road", x.peace(1, 0), NOT);
        says("PEACE behind the i-th WAGON: 1 there it kicked, 0 not. UNKNOWN");
        int[] unknown = {NONE, 2, LOW, HIGH};
        for (int r : unknown) {
            due("peace(" + r + ", 0)", x.peace(r, 0), UNKNOWN);
            due("peace(" + r + ", -1)", x.peace(r, NONE), UNKNOWN);
        }
    }

    private static void driftBounds() {
        says("BY DRAWS (n 1 .. 60): CUTS.");
        GrudgeYard x = of("y7;w0 1 0;");
        int[] outside = {0, 61, NONE, LOW, HIGH};
        for (int n : outside) {
            due("drift(" + n + ")", x.drift(n), OUTSIDE);
        }
        due("refused: no draw", x.seed(0), 0);
        // One road, one wagon: a cut, a pull, a cut and on.
        due("drift(1)", x.drift(1), 1);
        due("drift(60): thirty pulls, thirty cuts", x.drift(60), 31);
        due("all cuts, not the new ones", x.told(5), 31);
    }

    private static void driftWithoutRoads() {
        says("OUTSIDE, NOT: no ROADS");
        GrudgeYard x = new GrudgeYard();
        due("drift(1)", x.drift(1), NOT);
        due("drift(60)", x.drift(60), NOT);
        due("drift(0)", x.drift(0), OUTSIDE);
        due("drift(61)", x.drift(61), OUTSIDE);
        due("no draw", x.seed(7), 0);
        due("nothing to undo", x.undo(), NOT);
        due("a road without wagons", of("y1;").drift(60), 0);
    }

    /** No object comes so far in 512 calls; the refusal is told all the same. */
    private static void driftOfManyCuts() {
        says("FULL: CUTS are above 90000.");
        GrudgeYard x = of("y7;w0 1 0;");
        for (int i = 0; i < 3000; i++) {
            x.drift(60);
        }
        due("cuts", x.told(5), 90000);
        due("not above yet", x.drift(1), 90001);
        due("above", x.drift(1), FULL);
        due("above: drift(60)", x.drift(60), FULL);
        due("OUTSIDE is ahead of FULL", x.drift(61), OUTSIDE);
        due("the cuts stay", x.told(5), 90001);
        x.undo();
        due("undone", x.drift(2), 90001);
        due("above again", x.drift(1), FULL);
        due("a cut is not refused", x.cut(1, 0), 0);
        due("nor is a pull", x.pull(0), 1);
    }

    private static void driftDoes() {
        says("if a WAGON is on the HUMP and that ROAD has room, a CUT of 1 into it; "
            + "if none is on the HUMP, that ROAD is PULLED; else nothing.");
        // The draws of two from the seed 0 on: 0, 0, 0, 1, 0, 1.
        GrudgeYard x = of("y2,1;w0 1 0;w0 1 0;w0 1 0;x0 0;");
        x.drift(2);
        x.peace(0, 0);
        due("a full road: nothing", x.drift(1), 2);
        dueRoad("a full road", x, 0, 0, 1);
        dueHump("a full road", x, 2);
        due("peace stays", x.road(0, 2), 1);
        due("a cut", x.drift(1), 3);
        dueRoad("a cut", x, 1, 2);
        due("a pull", x.drift(1), 3);
        dueHump("a pull", x, 1, 0);
        due("peace is gone", x.road(0, 2), 0);
        GrudgeYard one = of("y1,1;w0 1 0;");
        one.cut(1, 1);
        due("an empty road is drawn", one.drift(1), 1);
        dueRoad("nothing is pulled", one, 1, 0);
        due("it can be undone all the same", one.told(11), 2);
        // From this seed on the next draw of two is 1.
        one.seed(654583775);
        due("the road that is drawn", one.drift(1), 1);
        dueHump("it is pulled", one, 0);
    }

    private static void undoOfNone() {
        says("The latest is undone: how many more can be. NOT: none.");
        GrudgeYard x = of(SEVEN);
        due("none yet", x.undo(), NOT);
        x.cut(1, 0);
        x.cut(1, 1);
        due("one more", x.undo(), 1);
        due("no more", x.undo(), 0);
        due("none", x.undo(), NOT);
        due("none again", x.undo(), NOT);
        dueHump("as it was", x, 0, 1, 2, 3, 4, 5, 6);
    }

    private static void undoOfEach() {
        says("UNDONE: the latest of cut(), pull(), peace(), drift() that was not refused");
        GrudgeYard x = of("y7,7;w0 1 0;w0 1 0;w0 1 0;x0 0;");
        List<Integer> start = stand(x);
        x.cut(2, 0);
        List<Integer> cut = stand(x);
        x.peace(0, 0);
        List<Integer> peace = stand(x);
        x.pull(0);
        List<Integer> pulled = stand(x);
        x.drift(60);
        due("drift changes it", !stand(x).equals(pulled));
        due("drift undone", x.undo(), 3);
        due("as ahead of drift", stand(x).equals(pulled));
        due("pull undone", x.undo(), 2);
        due("as ahead of pull", stand(x).equals(peace));
        due("peace undone", x.undo(), 1);
        due("as ahead of peace", stand(x).equals(cut));
        due("cut undone", x.undo(), 0);
        due("as ahead of cut", stand(x).equals(start));
    }

    private static void twentyAreKept() {
        says("20 at most are kept, the oldest are lost");
        int[] totals = {19, 20, 21, 40, 41, 45};
        for (int total : totals) {
            GrudgeYard x = of(SEVEN);
            for (int i = 0; i < total; i++) {
                cutOrPull(x, i);
                due("kept behind " + (i + 1), x.told(11), Math.min(i + 1, 20));
            }
            int kept = Math.min(total, 20);
            for (int i = 1; i <= kept; i++) {
                due("undo() " + i + " of " + total, x.undo(), kept - i);
                dueBehind(x, total - i);
            }
            due("undo() of no more of " + total, x.undo(), NOT);
            dueBehind(x, total - kept);
        }
    }

    /** The i-th of a row in which a cut of one and its pull take turns, road by road. */
    private static void cutOrPull(GrudgeYard x, int i) {
        int r = i / 2 % 4;
        due("step " + i, i % 2 == 0 ? x.cut(1, r) : x.pull(r), i % 2 == 0 ? 0 : 1);
    }

    /** What stands behind so many of that row. */
    private static void dueBehind(GrudgeYard x, int steps) {
        due("cuts behind " + steps, x.told(5), (steps + 1) / 2);
        due("on the hump behind " + steps, x.told(4), steps % 2 == 0 ? 7 : 6);
        due("road behind " + steps, x.wagon(0, 3), steps % 2 == 0 ? NONE : steps / 2 % 4);
    }

    private static void refusedAreNotKept() {
        says("UNDONE: the latest of cut(), pull(), peace(), drift() that was not refused");
        GrudgeYard x = of("y3;w0 1 0;w0 1 0;x0 0;");
        x.cut(2, 0);
        due("cut(1, 0)", x.cut(1, 0), NOT);
        due("cut(0, 0)", x.cut(0, 0), OUTSIDE);
        due("pull(1)", x.pull(1), UNKNOWN);
        due("peace(0, 1)", x.peace(0, 1), NOT);
        due("drift(0)", x.drift(0), OUTSIDE);
        due("one is kept", x.told(11), 1);
        x.feed(' ');
        x.seed(3);
        x.couple(0, 0, true);
        x.chalk(0, 0, 0);
        x.write(0, 0, 0);
        x.plan(NONE);
        x.foremen(7);
        x.tear();
        due("none of the others is kept", x.told(11), 1);
        due("undo()", x.undo(), 0);
        dueHump("undone", x, 0, 1);
        due("an undo is not undone", x.undo(), NOT);
    }

    private static void seedStays() {
        says("all of section 2 is as ahead of it; THE SEED stays.");
        GrudgeYard x = of(SEVEN);
        x.drift(1);
        x.undo();
        due("as drawn", x.seed(0), 12345);
        x.drift(1);
        x.seed(77);
        x.undo();
        due("as set", x.seed(0), 77);
    }

    private static void undoneAndDoneAnew() {
        says("The latest is undone: how many more can be.");
        GrudgeYard x = of(SEVEN);
        for (int i = 0; i < 25; i++) {
            cutOrPull(x, i);
        }
        for (int i = 24; i >= 19; i--) {
            due("undo() of step " + i, x.undo(), i - 5);
            dueBehind(x, i);
        }
        for (int i = 19; i < 33; i++) {
            cutOrPull(x, i);
            due("kept behind step " + i, x.told(11), Math.min(i - 4, 20));
        }
        for (int i = 32; i >= 13; i--) {
            due("undo() of step " + i, x.undo(), i - 13);
            dueBehind(x, i);
        }
        due("the oldest are lost", x.undo(), NOT);
    }
}
