/**
 * The document's section 3 up to the book, and promises 15 to 28, sentence by sentence: each that
 * names a bound, a refusal or its NONE has a test of its own, which begins with its words.
 */
public final class TriedBoundsTest extends YardTest {
    public static void main(String[] args) {
        planIntoRoadsWithRoom();
        planOfNone();
        planByKicks();
        planByCuts();
        planIsTheFirst();
        planIndexes();
        leastRoadsLeaveOut();
        leastRoadsWithoutRoom();
        leastRoadsFromNoneToSeven();
        leastRoadsAreTheFirst();
        leastRoadsUnknown();
        safeAtLeastNone();
        safeLengths();
        safeUnknown();
        eightCouplings();
        latestCoupling();
        lawsOfNone();
        lawsBounds();
        lawsByCircus();
        leastLaw();
        nextTry();
        sixChalks();
        chalkPlaces();
        chalkKinds();
        nobodyByChalk();
        fitIntoRoadsWithRoom();
        fitByAllChalk();
        sureInAll();
        foremenByTurns();
        foremenBounds();
        foremenWithoutRoom();
        fewestMore();
        fewestUnknown();
        rustedBounds();
        rustedCut();
        fifteenEntries();
        bookOfNobody();
        bookPlaces();
        firstWrong();
        tearAll();
        end("the bounds of what is tried hold");
    }

    /** So many wagons of kind 0 without a grudge. */
    private static String wagons(int n) {
        return "w0 1 0;".repeat(n);
    }

    private static void duePlan(String when, GrudgeYard x, int kicks, int cuts, int... roads) {
        due(when + ": kicks", x.plan(NONE), kicks);
        due(when + ": cuts", x.plan(-2), cuts);
        for (int i = 0; i < roads.length; i++) {
            due(when + ": plan(" + i + ")", x.plan(i), roads[i]);
        }
        due(when + ": behind the last", x.plan(roads.length), NONE);
    }

    private static void planIntoRoadsWithRoom() {
        says("PLAN: all WAGONS on the HUMP, each into a ROAD that has room");
        duePlan("just room", of("y1,2,1;" + wagons(4)), 0, 3, 0, 1, 1, 2);
        duePlan("none has room for all", of("y1,2,1;" + wagons(5)), NONE, NONE);
        duePlan("seven into one", of("y7;" + wagons(7)), 0, 1, 0, 0, 0, 0, 0, 0, 0);
        duePlan("seven into six", of("y6;" + wagons(7)), NONE, NONE);
        GrudgeYard x = of("y3,1;" + wagons(4));
        x.cut(2, 0);
        duePlan("room that is left", x, 0, 2, 0, 1);
        x.pull(0);
        x.cut(1, 1);
        duePlan("a full road", x, 0, 1, 0, 0, 0);
        GrudgeYard peace = of("y3;" + wagons(3) + "x0 0;");
        peace.cut(2, 0);
        peace.peace(0, 0);
        duePlan("peace takes no room", peace, 1, 1, 0);
    }

    private static void planOfNone() {
        says("KICKS; CUTS; the ROAD of the i-th from the head; NONE.");
        duePlan("no roads, no wagons", new GrudgeYard(), 0, 0);
        duePlan("no wagons", of("y1;"), 0, 0);
        GrudgeYard x = of("y2;" + wagons(2) + "x0 0;");
        x.cut(2, 0);
        duePlan("none on the hump", x, 0, 0);
        GrudgeYard tight = of("y1;" + wagons(2));
        duePlan("no room", tight, NONE, NONE, NONE, NONE);
        tight.cut(1, 0);
        duePlan("no room at all", tight, NONE, NONE, NONE);
    }

    private static void planByKicks() {
        says("by which fewest KICKS are new");
        duePlan("fewer kicks by more cuts", of("y7,7;" + wagons(2) + "x0 0;"), 0, 2, 0, 1);
        GrudgeYard x = of("y7,7;w0 1 0;w0 1 0;w1 1 0;x0 0;x0 1;");
        x.cut(2, 0);
        duePlan("those that were are not new", x, 0, 1, 1);
        x.cut(1, 1);
        duePlan("none is new", x, 0, 0);
        GrudgeYard behind = of("y7;w0 1 0;w1 1 0;x0 1;");
        behind.cut(1, 0);
        duePlan("one behind what stands there", behind, 1, 1, 0);
        duePlan("all kick", of("y7;" + wagons(7) + "x0 0;"), 6, 1, 0, 0, 0, 0, 0, 0, 0);
    }

    private static void planByCuts() {
        says("of like ones fewest CUTS (WAGONS that follow one another into one ROAD are one CUT)");
        duePlan("one cut into the greater road", of("y1,2;" + wagons(2)), 0, 1, 1, 1);
        duePlan("back into the same road", of("y7,7;w0 1 0;w1 1 0;w2 1 0;x0 1;x1 2;"), 0, 3, 0, 1, 0);
        duePlan("two cuts", of("y2,2;" + wagons(3)), 0, 2, 0, 0, 1);
        duePlan("a cut each", of("y1,1,1,1;" + wagons(4)), 0, 4, 0, 1, 2, 3);
    }

    private static void planIsTheFirst() {
        says("then the first (WAGON by WAGON from the head the lesser ROAD)");
        duePlan("the lesser road", of("y7,7,7,7;" + wagons(1)), 0, 1, 0);
        duePlan("the first of two rows", of("y1,2,2;" + wagons(3)), 0, 2, 0, 1, 1);
        GrudgeYard x = of("y1,7,7;" + wagons(2));
        x.cut(1, 0);
        duePlan("the first road with room", x, 0, 1, 1);
    }

    private static void planIndexes() {
        says("PLAN: i = NONE KICKS, -2 CUTS, else a ROAD; NONE.");
        GrudgeYard x = of("y1,1,1;" + wagons(3));
        int[] nobody = {3, 7, -3, LOW, HIGH};
        for (int i : nobody) {
            due("plan(" + i + ")", x.plan(i), NONE);
        }
        due("plan(0)", x.plan(0), 0);
        due("plan(2)", x.plan(2), 2);
        due("plan(-1)", x.plan(-1), 0);
        due("plan(-2)", x.plan(-2), 3);
        x.cut(1, 0);
        due("plan(2) of two", x.plan(2), NONE);
        due("plan(1) of two", x.plan(1), 2);
    }

    private static void dueLeast(String when, GrudgeYard x, int roads, int... rows) {
        due(when + ": leastRoads(-1)", x.leastRoads(NONE), roads);
        for (int w = 0; w < rows.length; w++) {
            due(when + ": leastRoads(" + w + ")", x.leastRoads(w), rows[w]);
        }
    }

    private static void leastRoadsLeaveOut() {
        says("those of no TRAIN are left out");
        dueLeast("one of three", of("y1;" + wagons(3) + "t1;"), 1, NONE, 0, NONE);
        dueLeast("two of three", of("y1;" + wagons(3) + "t0,2;"), 2, 0, NONE, 1);
        dueLeast("told behind the train", of("y1;" + wagons(1) + "t0;" + wagons(1)), 1, 0, NONE);
    }

    private static void leastRoadsWithoutRoom() {
        says("by all WAGONS of it as they were told");
        GrudgeYard x = of("y3;" + wagons(3) + "t0,1,2;");
        x.cut(2, 0);
        dueLeast("wherever they stand", x, 3, 0, 1, 2);
        x.pull(0);
        dueLeast("whatever the hump's order", x, 3, 0, 1, 2);
        says("room of no matter");
        dueLeast("seven in a road of one", of("y1;" + wagons(7) + "t6,5,4,3,2,1,0;"), 1, 0, 0, 0, 0, 0, 0, 0);
    }

    private static void leastRoadsFromNoneToSeven() {
        says("how many ROADS (1 to 7; 0 without a TRAIN)");
        dueLeast("without a yard", new GrudgeYard(), 0);
        dueLeast("without a train", of("y7;" + wagons(2)), 0, NONE, NONE);
        dueLeast("one", of("y7;" + wagons(1) + "t0;"), 1, 0);
        StringBuilder train = new StringBuilder("t0");
        for (int roads = 2; roads <= 7; roads++) {
            train.append(",").append(roads - 1);
            dueLeast("as they come", of("y7;" + wagons(roads) + train + ";"), roads, 0, 1);
        }
        dueLeast("seven", of("y7;" + wagons(7) + "t0,1,2,3,4,5,6;"), 7, 0, 1, 2, 3, 4, 5, 6);
    }

    private static void leastRoadsAreTheFirst() {
        says("of all such rows the first (WAGON by WAGON as told, the lesser ROAD)");
        dueLeast("0 into either", of("y1;" + wagons(3) + "t0,2,1;"), 2, 0, 1, 1);
        dueLeast("2 into either", of("y1;" + wagons(3) + "t2,0,1;"), 2, 0, 1, 0);
        dueLeast("the first that will do", of("y1;" + wagons(5) + "t1,4,0,3,2;"), 2, 0, 0, 1, 1, 1);
    }

    private static void leastRoadsUnknown() {
        says("w = NONE how many, else the ROAD of a WAGON; NONE. UNKNOWN.");
        GrudgeYard x = of("y1;" + wagons(3) + "t0;");
        int[] unknown = {-2, 3, 7, LOW, HIGH};
        for (int w : unknown) {
            due("leastRoads(" + w + ")", x.leastRoads(w), UNKNOWN);
        }
        due("leastRoads(2)", x.leastRoads(2), NONE);
        due("without a yard", new GrudgeYard().leastRoads(0), UNKNOWN);
    }

    private static void safeAtLeastNone() {
        says("what the first takes less what the second takes (0 at least)");
        GrudgeYard x = of("y1;w0 1 20;w0 30 0;w0 1 20;");
        due("a slow one ahead of a fast one", x.safe(0, 1, 99), 361);
        due("a fast one ahead of a slow one", x.safe(1, 0, 99), 0);
        due("two alike", x.safe(0, 2, 99), 0);
        says("Over l lengths (1 .. 99) it takes 100 times l / SPEED.");
        // 1000 / 21 is 47, 1000 / 90 is 11: each is cut for itself.
        due("each is cut", x.safe(0, 1, 10), 36);
        due("each is cut: 5", x.safe(0, 1, 5), 23 - 5);
    }

    private static void safeLengths() {
        says("Over l lengths (1 .. 99)");
        GrudgeYard x = of("y1;w0 1 20;w0 30 0;");
        int[] outside = {0, 100, NONE, LOW, HIGH};
        for (int l : outside) {
            due("safe(0, 1, " + l + ")", x.safe(0, 1, l), OUTSIDE);
        }
        due("one length", x.safe(0, 1, 1), 3);
        due("99 lengths", x.safe(0, 1, 99), 361);
        x.cut(1, 0);
        due("wherever they stand", x.safe(0, 1, 1), 3);
    }

    private static void safeUnknown() {
        says("one twice, where two WAGONS are asked");
        GrudgeYard x = of("y1;w0 1 20;w0 30 0;");
        due("safe(1, 1, 5)", x.safe(1, 1, 5), UNKNOWN);
        due("safe(0, 0, 5)", x.safe(0, 0, 5), UNKNOWN);
        due("safe(0, 0, 0)", x.safe(0, 0, 0), UNKNOWN);
        says("SAFE. UNKNOWN, OUTSIDE.");
        int[] unknown = {NONE, 2, 7, LOW, HIGH};
        for (int w : unknown) {
            due("safe(" + w + ", 0, 1)", x.safe(w, 0, 1), UNKNOWN);
            due("safe(0, " + w + ", 1)", x.safe(0, w, 1), UNKNOWN);
            due("safe(0, " + w + ", 100)", x.safe(0, w, 100), UNKNOWN);
        }
    }

    private static void eightCouplings() {
        says("TRIED COUPLINGS (8 at most)");
        GrudgeYard x = new GrudgeYard();
        for (int i = 0; i < 8; i++) {
            due("couple " + i, x.couple(i / 4, i % 4, true), i + 1);
        }
        due("a ninth", x.couple(3, 3, true), FULL);
        due("a ninth of a pair that was tried", x.couple(0, 0, false), FULL);
        due("tried", x.told(8), 8);
        due("the least law", x.laws(NONE), 8);
        due("the laws of nine", x.laws(9), 8);
        x.tear();
        due("the first again", x.couple(3, 3, true), 1);
        says("A coupling: how many were tried. UNKNOWN, FULL (8).");
        int[] unknown = {NONE, 5, 9, LOW, HIGH};
        for (int kind : unknown) {
            due("couple(" + kind + ", 0)", x.couple(kind, 0, true), UNKNOWN);
            due("couple(0, " + kind + ")", x.couple(0, kind, false), UNKNOWN);
        }
        due("couple(4, 4)", x.couple(4, 4, false), 2);
    }

    private static void latestCoupling() {
        says("KIND a right ahead of KIND b kicked, or not (the latest of two KINDS counts)");
        GrudgeYard x = new GrudgeYard();
        x.couple(0, 1, true);
        due("kicked", x.laws(NONE), 1);
        due("b ahead of a is another", x.next(), 0);
        x.couple(1, 0, false);
        due("the other way round counts apart", x.laws(NONE), 1);
        x.couple(0, 1, false);
        due("not kicked at last", x.laws(NONE), 0);
        due("of two pairs: laws(14)", x.laws(14), 1);
        due("of two pairs: laws(15)", x.laws(15), 0);
        x.couple(0, 1, true);
        due("kicked at last", x.laws(NONE), 1);
        due("each was tried", x.told(8), 4);
    }

    private static void lawsOfNone() {
        says("LAWS: SETS of n (0 .. 16) of the 16 pairs of KINDS 0 to 3 that kick");
        GrudgeYard x = new GrudgeYard();
        int[] want = {1, 16, 120, 560, 1820, 4368, 8008, 11440, 12870, 11440, 8008, 4368, 1820, 560, 120, 16, 1};
        for (int n = 0; n <= 16; n++) {
            due("laws(" + n + ")", x.laws(n), want[n]);
        }
        due("laws(-1)", x.laws(NONE), 0);
    }

    private static void lawsBounds() {
        says("LAWS: how many of n pairs (n NONE: the least n; NONE). OUTSIDE.");
        GrudgeYard x = new GrudgeYard();
        int[] outside = {-2, 17, 18, LOW, HIGH};
        for (int n : outside) {
            due("laws(" + n + ")", x.laws(n), OUTSIDE);
        }
        x.couple(4, 4, true);
        for (int n : outside) {
            due("laws(" + n + ") of none", x.laws(n), OUTSIDE);
        }
    }

    private static void lawsByCircus() {
        says("KIND 4 never kicks: none, if it did");
        for (int kind = 0; kind <= 4; kind++) {
            GrudgeYard x = new GrudgeYard();
            x.couple(4, kind, false);
            x.couple(kind, 4, false);
            due("it did not: the least", x.laws(NONE), 0);
            due("it did not: laws(8)", x.laws(8), 12870);
            x.couple(kind, 4, true);
            due("it did: the least", x.laws(NONE), NONE);
            for (int n = 0; n <= 16; n += 8) {
                due("it did: laws(" + n + ")", x.laws(n), 0);
            }
            x.couple(kind, 4, false);
            due("it did not, at last", x.laws(NONE), 0);
            x.couple(4, kind, true);
            due("it did, from ahead", x.laws(NONE), NONE);
            due("it did, from ahead: laws(0)", x.laws(0), 0);
        }
    }

    private static void leastLaw() {
        says("how many; the least n of which there is one; NONE.");
        GrudgeYard x = new GrudgeYard();
        int[] behind = {8, 28, 56, 70, 56, 28, 8, 1};
        for (int i = 0; i < 8; i++) {
            x.couple(3 - i / 4, 3 - i % 4, true);
            due("the least behind " + (i + 1), x.laws(NONE), i + 1);
            due("one less than " + (i + 1), x.laws(i), 0);
            due("just " + (i + 1), x.laws(i + 1), 1);
        }
        for (int i = 0; i < 8; i++) {
            due("laws(" + (9 + i) + ")", x.laws(9 + i), behind[i]);
        }
    }

    /** Eight couplings at most leave eight pairs at least: that none is left cannot come. */
    private static void nextTry() {
        says("NEXT TRY: the first pair (a, then b, 0 to 3) that has not been tried: 10 a and b; NONE.");
        GrudgeYard x = new GrudgeYard();
        int[] pairs = {0, 1, 2, 3, 10, 11, 12, 13};
        for (int pair : pairs) {
            due("next()", x.next(), pair);
            x.couple(pair / 10, pair % 10, pair % 2 == 0);
        }
        due("behind eight", x.next(), 20);
        x.tear();
        due("behind tear()", x.next(), 0);
        x.couple(0, 4, false);
        x.couple(4, 0, true);
        due("a circus is of no pair", x.next(), 0);
        x.couple(0, 2, true);
        x.couple(0, 0, true);
        due("the first between", x.next(), 1);
        x.couple(0, 1, true);
        due("behind the gap", x.next(), 3);
        x.couple(3, 0, true);
        due("the other way round is another", x.next(), 3);
    }

    private static void sixChalks() {
        says("CHALK (6 at most)");
        GrudgeYard x = of("y7,7;" + wagons(7));
        for (int i = 0; i < 6; i++) {
            due("chalk " + i, x.chalk(0, i, 0), i + 1);
        }
        due("a seventh", x.chalk(0, 6, 0), FULL);
        due("a seventh that gainsays", x.chalk(0, 0, 9), FULL);
        due("chalk", x.told(9), 6);
        due("fit(-1): the seventh into either", x.fit(NONE), 8);
        x.tear();
        due("the first again", x.chalk(0, 6, 0), 1);
        due("fit(-1): all into one", x.fit(NONE), 1);
    }

    private static void chalkPlaces() {
        says("the i-th place (0 .. 6, 0 the deepest) of a ROAD has a KIND");
        GrudgeYard x = of("y7,7;w0 1 0;w1 1 0;w2 1 0;");
        int[] outside = {NONE, 7, 8, LOW, HIGH};
        for (int i : outside) {
            due("chalk(0, " + i + ", 0)", x.chalk(0, i, 0), OUTSIDE);
            due("chalk(0, " + i + ", 9)", x.chalk(0, i, 9), OUTSIDE);
        }
        due("chalk(1, 6, 9)", x.chalk(1, 6, 9), 1);
        due("chalk(1, 0, 1)", x.chalk(1, 0, 1), 2);
        due("fit(-1): 1 is the deepest there", x.fit(NONE), 2);
        due("fit(0)", x.fit(0), 0);
        due("fit(1)", x.fit(1), 1);
        due("fit(2)", x.fit(2), NONE);
    }

    private static void chalkKinds() {
        says("CHALK: how much. UNKNOWN (KIND not 9), OUTSIDE (i), FULL (6).");
        GrudgeYard x = of("y7,7;" + wagons(1));
        int[] unknownKinds = {NONE, 5, 6, 7, 8, 10, LOW, HIGH};
        for (int kind : unknownKinds) {
            due("chalk(0, 0, " + kind + ")", x.chalk(0, 0, kind), UNKNOWN);
            due("chalk(0, 7, " + kind + ")", x.chalk(0, 7, kind), UNKNOWN);
        }
        int[] unknownRoads = {NONE, 2, 4, LOW, HIGH};
        for (int r : unknownRoads) {
            due("chalk(" + r + ", 0, 0)", x.chalk(r, 0, 0), UNKNOWN);
            due("chalk(" + r + ", 7, 9)", x.chalk(r, 7, 9), UNKNOWN);
        }
        int[] kinds = {0, 1, 2, 3, 4, 9};
        for (int i = 0; i < kinds.length; i++) {
            due("chalk(1, 0, " + kinds[i] + ")", x.chalk(1, 0, kinds[i]), i + 1);
        }
        due("without a yard", new GrudgeYard().chalk(0, 0, 0), UNKNOWN);
    }

    private static void nobodyByChalk() {
        says("(9: nobody is there)");
        GrudgeYard x = of("y2,7;" + wagons(2));
        x.chalk(0, 0, 9);
        due("an empty road", x.fit(NONE), 1);
        due("the other one", x.fit(0), 1);
        x.tear();
        x.chalk(0, 1, 9);
        due("one there at most", x.fit(NONE), 3);
        x.tear();
        x.chalk(0, 2, 9);
        due("nobody is beyond the room", x.fit(NONE), 4);
        x.chalk(0, 2, 0);
        due("no kind is beyond the room", x.fit(NONE), 0);
        x.tear();
        x.cut(1, 0);
        x.chalk(0, 0, 9);
        due("one stands there", x.fit(NONE), 0);
        x.tear();
        x.chalk(0, 0, 0);
        due("its kind stands there", x.fit(NONE), 2);
        x.chalk(1, 0, 4);
        due("a circus that is not", x.fit(NONE), 0);
    }

    private static void fitIntoRoadsWithRoom() {
        says("when all WAGONS on the HUMP are let down into ROADS that have room");
        due("no roads, no wagons", new GrudgeYard().fit(NONE), 1);
        due("no roads: fit(0)", new GrudgeYard().fit(0), NONE);
        due("four roads, seven wagons", of("y7,7,7,7;" + wagons(7)).fit(NONE), 16384);
        due("four narrow roads", of("y1,2,3,4;" + wagons(7)).fit(NONE), narrowRows());
        due("just room", of("y1,2;" + wagons(3)).fit(NONE), 3);
        due("no room", of("y1,2;" + wagons(4)).fit(NONE), 0);
        due("no room: fit(0)", of("y1,2;" + wagons(4)).fit(0), NONE);
        GrudgeYard x = of("y1,2;" + wagons(3));
        x.cut(1, 0);
        due("a full road", x.fit(NONE), 1);
        due("a full road: fit(1)", x.fit(1), 1);
        x.cut(2, 1);
        due("none on the hump", x.fit(NONE), 1);
        due("none on the hump: fit(0)", x.fit(0), NONE);
        GrudgeYard kicks = of("y7,7;" + wagons(2) + "x0 0;");
        due("kicks are of no matter", kicks.fit(NONE), 4);
    }

    /** Rows of seven into roads with room for 1, 2, 3 and 4: each row of roads is tried. */
    private static int narrowRows() {
        int rows = 0;
        for (int row = 0; row < 16384; row++) {
            int[] there = new int[4];
            for (int w = 0; w < 7; w++) {
                there[row >> (2 * w) & 3]++;
            }
            rows += there[0] <= 1 && there[1] <= 2 && there[2] <= 3 && there[3] <= 4 ? 1 : 0;
        }
        return rows;
    }

    private static void fitByAllChalk() {
        says("FIT: rows of ROADS, one for each WAGON from the head on, by which all CHALK is so: how many");
        GrudgeYard x = of("y7,7;w0 1 0;w1 1 0;w0 1 0;");
        due("no chalk", x.fit(NONE), 8);
        x.chalk(0, 0, 0);
        due("one", x.fit(NONE), 5);
        x.chalk(1, 0, 0);
        due("two", x.fit(NONE), 2);
        x.chalk(1, 1, 1);
        due("three", x.fit(NONE), 1);
        x.chalk(0, 1, 1);
        due("four", x.fit(NONE), 0);
        x.tear();
        x.chalk(0, 0, 0);
        x.chalk(0, 0, 0);
        due("twice the same", x.fit(NONE), 5);
        x.chalk(0, 0, 1);
        due("two that gainsay each other", x.fit(NONE), 0);
        due("two that gainsay each other: fit(0)", x.fit(0), NONE);
    }

    private static void sureInAll() {
        says("SURE: the ROAD of the i-th WAGON from the head, if it is the same in all; NONE.");
        GrudgeYard x = of("y7,7,7;w0 1 0;w1 1 0;w2 1 0;");
        due("without chalk", x.fit(0), NONE);
        x.chalk(2, 0, 0);
        x.chalk(2, 1, 2);
        due("how many", x.fit(NONE), 2);
        due("fit(0)", x.fit(0), 2);
        due("fit(1): one of two", x.fit(1), NONE);
        due("fit(2)", x.fit(2), 2);
        int[] nobody = {-2, 3, 7, LOW, HIGH};
        for (int i : nobody) {
            due("fit(" + i + ")", x.fit(i), NONE);
        }
        due("one row", of("y7;" + wagons(7)).fit(6), 0);
        due("none on the hump", of("y7;").fit(0), NONE);
    }

    private static void foremenByTurns() {
        says("the first one wants new KICKS as few, the other one as many as can be: KICKS.");
        GrudgeYard x = of("y7,7;" + wagons(4) + "x0 0;");
        int[] want = {0, 1, 1, 2};
        for (int n = 1; n <= 4; n++) {
            due("foremen(" + n + ")", x.foremen(n), want[n - 1]);
        }
        x.cut(1, 0);
        due("the first one flees", x.foremen(1), 0);
        due("the other one kicks", x.foremen(2), 1);
        x.cut(1, 1);
        due("none can flee", x.foremen(1), 1);
        due("those that were are not new", x.foremen(2), 2);
    }

    private static void foremenBounds() {
        says("n of them, 1 .. 7");
        GrudgeYard x = of("y7;" + wagons(7) + "x0 0;");
        int[] outside = {0, 8, NONE, LOW, HIGH};
        for (int n : outside) {
            due("foremen(" + n + ")", x.foremen(n), OUTSIDE);
        }
        due("foremen(1)", x.foremen(1), 0);
        due("foremen(7)", x.foremen(7), 6);
        due("without a yard", new GrudgeYard().foremen(7), 0);
        due("without a yard: foremen(8)", new GrudgeYard().foremen(8), OUTSIDE);
        x.cut(5, 0);
        due("two are left: foremen(2)", x.foremen(2), 2);
        due("two are left: foremen(7)", x.foremen(7), 2);
        x.cut(2, 0);
        due("none is left", x.foremen(7), 0);
    }

    private static void foremenWithoutRoom() {
        says("none has room: it ends");
        GrudgeYard x = of("y2;" + wagons(4) + "x0 0;");
        due("two of four", x.foremen(4), 1);
        due("two of two", x.foremen(2), 1);
        x.cut(1, 0);
        due("one of three", x.foremen(7), 1);
        x.cut(1, 0);
        due("none of two", x.foremen(7), 0);
        due("a road that is full is left out", of("y1,7;" + wagons(3) + "x0 0;").foremen(3), 1);
    }

    private static void fewestMore() {
        says("FEWEST: how many more of PEACE a ROAD needs so that no two WAGONS in it, "
            + "one right ahead of the other, kick.");
        GrudgeYard x = of("y7,7;" + wagons(4) + "w4 1 0;" + wagons(2) + "x0 0;");
        due("nobody is there", x.fewest(0), 0);
        x.cut(1, 0);
        due("one alone", x.fewest(0), 0);
        x.cut(1, 0);
        due("two", x.fewest(0), 1);
        x.peace(0, 0);
        due("peace is there", x.fewest(0), 0);
        x.cut(5, 0);
        due("seven with a circus", x.fewest(0), 3);
        x.peace(0, 3);
        due("peace by the circus", x.fewest(0), 3);
        x.peace(0, 5);
        due("peace behind the last but one", x.fewest(0), 2);
        due("the other road", x.fewest(1), 0);
    }

    private static void fewestUnknown() {
        says("FEWEST. UNKNOWN.");
        GrudgeYard x = of("y7,7;");
        int[] unknown = {NONE, 2, 4, LOW, HIGH};
        for (int r : unknown) {
            due("fewest(" + r + ")", x.fewest(r), UNKNOWN);
        }
        due("fewest(1)", x.fewest(1), 0);
        due("without a yard", new GrudgeYard().fewest(0), UNKNOWN);
    }

    private static void rustedBounds() {
        says("none of n WAGONS (0 .. 60) sticks");
        GrudgeYard x = new GrudgeYard();
        int[] outside = {NONE, 61, LOW, HIGH};
        for (int n : outside) {
            due("rusted(" + n + ", 0)", x.rusted(n, 0), OUTSIDE);
        }
        due("rusted(0, 50)", x.rusted(0, 50), 1000000000);
        due("rusted(60, 0)", x.rusted(60, 0), 1000000000);
        due("rusted(60, 100)", x.rusted(60, 100), 0);
        says("RUSTED (q 0 .. 100). OUTSIDE.");
        int[] outsideOdds = {NONE, 101, LOW, HIGH};
        for (int q : outsideOdds) {
            due("rusted(0, " + q + ")", x.rusted(0, q), OUTSIDE);
            due("rusted(60, " + q + ")", x.rusted(60, q), OUTSIDE);
        }
        due("rusted(1, 100)", x.rusted(1, 100), 0);
        due("rusted(0, 100)", x.rusted(0, 100), 1000000000);
        due("rusted(1, 0)", x.rusted(1, 0), 1000000000);
        due("rusted(1, 1)", x.rusted(1, 1), 990000000);
        due("rusted(1, 99)", x.rusted(1, 99), 10000000);
    }

    private static void rustedCut() {
        says("a BILLION times (100 less q) / 100 each (cut)");
        GrudgeYard x = new GrudgeYard();
        // 135012510.7 is cut to 135012510 ahead of the sixth: 90458381.7, not 90458382.2.
        due("rusted(6, 33)", x.rusted(6, 33), 90458381);
        due("rusted(4, 99)", x.rusted(4, 99), 10);
        due("rusted(5, 99)", x.rusted(5, 99), 0);
    }

    private static void fifteenEntries() {
        says("An entry behind THE BOOK: how many. UNKNOWN (w not NONE, no WAGON), OUTSIDE (i 0 .. 6), FULL (15).");
        GrudgeYard x = of("y7,7;" + wagons(2));
        for (int i = 0; i < 15; i++) {
            due("write " + i, x.write(i % 2, i % 7, NONE), i + 1);
        }
        due("a sixteenth", x.write(0, 0, NONE), FULL);
        due("entries", x.told(10), 15);
        due("judge(): the sixteenth is not there", x.judge(), NONE);
        x.tear();
        due("the first again", x.write(0, 0, 1), 1);
        int[] unknownWagons = {-2, 2, 7, LOW, HIGH};
        for (int w : unknownWagons) {
            due("write(0, 0, " + w + ")", x.write(0, 0, w), UNKNOWN);
            due("write(0, 7, " + w + ")", x.write(0, 7, w), UNKNOWN);
        }
        int[] unknownRoads = {NONE, 2, 4, LOW, HIGH};
        for (int r : unknownRoads) {
            due("write(" + r + ", 0, 0)", x.write(r, 0, 0), UNKNOWN);
            due("write(" + r + ", 7, -1)", x.write(r, 7, NONE), UNKNOWN);
        }
        due("without a yard", new GrudgeYard().write(0, 0, NONE), UNKNOWN);
    }

    private static void bookPlaces() {
        says("OUTSIDE (i 0 .. 6)");
        GrudgeYard x = of("y7;" + wagons(7));
        int[] outside = {NONE, 7, 8, LOW, HIGH};
        for (int i : outside) {
            due("write(0, " + i + ", 0)", x.write(0, i, 0), OUTSIDE);
            due("write(0, " + i + ", -1)", x.write(0, i, NONE), OUTSIDE);
        }
        x.cut(7, 0);
        due("write(0, 0, 0)", x.write(0, 0, 0), 1);
        due("write(0, 6, 6)", x.write(0, 6, 6), 2);
        due("judge()", x.judge(), NONE);
        GrudgeYard narrow = of("y1;" + wagons(1));
        due("a place beyond the room", narrow.write(0, 6, 0), 1);
        due("nobody comes there", narrow.judge(), 0);
    }

    private static void bookOfNobody() {
        says("which WAGON is the i-th in a ROAD (NONE: nobody)");
        GrudgeYard x = of("y7,7;" + wagons(2));
        x.write(0, 0, NONE);
        x.write(1, 6, NONE);
        due("nobody is there", x.judge(), NONE);
        x.cut(1, 1);
        due("nobody is there still", x.judge(), NONE);
        x.cut(1, 0);
        due("one is there", x.judge(), 0);
        x.pull(0);
        due("nobody is there again", x.judge(), NONE);
    }

    private static void firstWrong() {
        says("WRONG: the first that is otherwise now; NONE.");
        GrudgeYard x = of("y7,7;" + wagons(3));
        due("no entry", x.judge(), NONE);
        x.cut(2, 0);
        for (int i = 0; i < 14; i++) {
            x.write(0, i % 2, i % 2);
        }
        due("all are so", x.judge(), NONE);
        x.write(0, 1, 2);
        due("the fifteenth is not", x.judge(), 14);
        x.cut(1, 1);
        due("now as ever", x.judge(), 14);
        x.pull(0);
        due("the first is not", x.judge(), 0);
        x.cut(1, 0);
        due("another stands there", x.judge(), 0);
        x.undo();
        x.undo();
        due("undone", x.judge(), 14);
    }

    private static void tearAll() {
        says("Nothing tried, no CHALK, no BOOK: how much all three had.");
        GrudgeYard x = of("y7,7;" + wagons(3));
        due("none", x.tear(), 0);
        for (int i = 0; i < 20; i++) {
            x.couple(4, 4, true);
            x.chalk(0, 0, 4);
            x.write(0, 0, 0);
        }
        due("what is full", x.tear(), 29);
        dueTold("behind it", x, 2, 3, 0, 0, 3, 0, 0, NONE, 0, 0, 0, 0);
        due("nothing tried", x.laws(NONE), 0);
        due("no chalk", x.fit(NONE), 8);
        due("no book", x.judge(), NONE);
        due("none again", x.tear(), 0);
        due("without a yard", new GrudgeYard().tear(), 0);
    }
}
