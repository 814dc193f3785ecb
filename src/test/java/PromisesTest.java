/** For each promise its ordinary answers, the edges that the document names, and wrong inputs. */
public final class PromisesTest extends YardTest {
    public static void main(String[] args) {
        newObject();
        feed();
        yard();
        faultsOfStanding();
        faultsOfNumbers();
        faultsOfRepeats();
        blanksAndNumbers();
        told();
        wagon();
        road();
        at();
        enemies();
        cut();
        pull();
        peace();
        drift();
        undo();
        plan();
        leastRoads();
        safe();
        foremen();
        fewest();
        rusted();
        couple();
        laws();
        next();
        chalk();
        fit();
        write();
        tear();
        judge();
        seed();
        keep();
        goBack();
        end("all promises hold");
    }

    private static void newObject() {
        GrudgeYard x = new GrudgeYard();
        for (int what = 0; what <= 11; what++) {
            due("new: told(" + what + ")", x.told(what), what == 7 ? NONE : 0);
        }
        due("new: fault()", x.fault(), NONE);
        due("new: road(0, 0)", x.road(0, 0), UNKNOWN);
        due("new: wagon(0, 0)", x.wagon(0, 0), UNKNOWN);
        due("new: at(-1, 0)", x.at(NONE, 0), NONE);
        due("new: at(0, 0)", x.at(0, 0), UNKNOWN);
        due("new: enemies(0, 0)", x.enemies(0, 0), 0);
        due("new: plan(-2)", x.plan(-2), 0);
        due("new: fit(-1)", x.fit(NONE), 1);
        due("new: goBack(0)", x.goBack(0), NOT);
        due("new: keep(0)", x.keep(0), 1);
        due("new: goBack(0)", x.goBack(0), 1);
    }

    private static void feed() {
        GrudgeYard x = new GrudgeYard();
        due("feed(-1)", x.feed(-1), OUTSIDE);
        due("feed(256)", x.feed(256), OUTSIDE);
        for (int i = 1; i <= 230; i++) {
            due("feed " + i, x.feed(i % 2 == 0 ? 0 : 255), i);
        }
        due("feed 231", x.feed(0), FULL);
        due("feed(256) of a full text", x.feed(256), OUTSIDE);
        due("told(3)", x.told(3), 230);
        due("yard()", x.yard(), -11);
        due("told(3) behind yard()", x.told(3), 0);
        due("feed again", x.feed(32), 1);
    }

    private static void yard() {
        GrudgeYard x = of(SIX);
        x.cut(2, 0);
        x.peace(0, 0);
        x.couple(0, 0, true);
        x.chalk(0, 0, 0);
        x.write(0, 0, 0);
        x.seed(77);
        x.keep(0);
        x.keep(1);
        x.cut(1, 1);
        feedAll(x, "y1;q");
        due("yard() with a fault", x.yard(), -11);
        int[] same = {3, 6, 4, 0, 3, 2, 1, 1, 1, 1, 1, 1};
        for (int what = 0; what <= 11; what++) {
            due("behind a fault: told(" + what + ")", x.told(what), same[what]);
        }
        due("behind a fault: road(0, 2)", x.road(0, 2), 1);
        due("behind a fault: fault()", x.fault(), 3);
        feedAll(x, SIX);
        due("yard() again", x.yard(), 6);
        int[] fresh = {3, 6, 4, 0, 6, 0, 0, NONE, 0, 0, 0, 0};
        for (int what = 0; what <= 11; what++) {
            due("behind yard(): told(" + what + ")", x.told(what), fresh[what]);
        }
        due("behind yard(): fault()", x.fault(), NONE);
        due("behind yard(): road(0, 2)", x.road(0, 2), 0);
        due("behind yard(): goBack(0)", x.goBack(0), NOT);
        due("behind yard(): goBack(1)", x.goBack(1), NOT);
        due("behind yard(): undo()", x.undo(), NOT);
        due("behind yard(): laws(-1)", x.laws(NONE), 0);
        due("behind yard(): seed", x.seed(0), 77);
        dueHump("behind yard()", x, 0, 1, 2, 3, 4, 5);
        due("yard() of no text", x.yard(), 0);
        due("no text: told(0)", x.told(0), 0);
        due("no text: told(2)", x.told(2), 0);
        due("no text: wagon(0, 0)", x.wagon(0, 0), UNKNOWN);
        due("no text: enemies(0, 1)", x.enemies(0, 1), 0);
        feedAll(x, "   ");
        due("yard() of blanks", x.yard(), 0);
        due("y alone", of("y7;").told(0), 1);
    }

    private static void faultsOfStanding() {
        dueFault("w0 1 0;", 1, 0);
        dueFault("x0 1;", 1, 0);
        dueFault("t0;", 1, 0);
        dueFault("q", 1, 0);
        dueFault(";", 1, 0);
        dueFault("  Y1;", 1, 2);
        dueFault("y", 1, 1);
        dueFault("y ", 1, 2);
        dueFault("y;", 1, 1);
        dueFault("y1", 1, 2);
        dueFault("y1,", 1, 3);
        dueFault("y1,;", 1, 3);
        dueFault("y,1;", 1, 1);
        dueFault("y1 2;", 1, 3);
        dueFault("y1,1,1,1,1;", 1, 8);
        dueFault("y1,1,1,1 ,8;", 1, 9);
        dueFault("y1;z", 1, 3);
        dueFault("y1;1", 1, 3);
        dueFault("y1;;", 1, 3);
        dueFault("y1;\t", 1, 3);
        dueFault("y1;" + (char) 233, 1, 3);
        dueFault("y1;w0 1;", 1, 7);
        dueFault("y1;w0 1 0 0;", 1, 10);
        dueFault("y1;w0 1 0 0000;", 1, 10);
        dueFault("y1;w0,1 0;", 1, 5);
        dueFault("y1;w001;", 1, 7);
        dueFault("y1;w0 1 0", 1, 9);
        dueFault("y1;w0 1", 1, 7);
        dueFault("y1;x0;", 1, 5);
        dueFault("y1;x0,1;", 1, 5);
        dueFault("y1;x0 1 2;", 1, 8);
        dueFault("y1;t;", 1, 4);
        dueFault("y1;w0 1 0;t0,;", 1, 13);
        dueFault("y1;w0 1 0;t0 1;", 1, 13);
        dueFault("y1;w0 1 0;t", 1, 11);
        dueFault("y-1;", 1, 1);
    }

    private static void faultsOfNumbers() {
        dueFault("y0;", 2, 1);
        dueFault("y8;", 2, 1);
        dueFault("y 8", 2, 2);
        dueFault("y1,0;", 2, 3);
        dueFault("y0001;", 2, 1);
        dueFault("y1234567890123;", 2, 1);
        dueFault("y1;w5 1 0;", 2, 4);
        dueFault("y1;w0 0 0;", 2, 6);
        dueFault("y1;w0 31 0;", 2, 6);
        dueFault("y1;w0 1 21;", 2, 8);
        dueFault("y1;w0000 1 0;", 2, 4);
        dueFault("y1;x5 0;", 2, 4);
        dueFault("y1;x0 5;", 2, 6);
        dueFault("y1;x0 0000;", 2, 6);
        dueFault("y1;t0;", 2, 4);
        dueFault("y1;w0 1 0;t1;", 2, 11);
        dueFault("y1;w0 1 0;t0,1;w0 1 0;", 2, 13);
        dueFault("y1;w0 1 0;t0000;", 2, 11);
        dueFault("y1;w0 1 0;t0,999", 2, 13);
    }

    private static void faultsOfRepeats() {
        dueFault("y1;y", 3, 3);
        dueFault("y1;w0 1 0;y1;", 3, 10);
        dueFault("y1;w0 1 0;t0;t0;", 3, 13);
        dueFault("y1;w0 1 0;t0; t", 3, 14);
        StringBuilder text = new StringBuilder("y1;");
        for (int i = 0; i < 7; i++) {
            text.append("w0 1 0;");
        }
        due("seven wagons", of(text.toString()).told(1), 7);
        dueFault(text + "w", 3, 52);
        dueFault(text + "t0,1,2,3,4,5,6,0;", 4, 67);
        dueFault(text + "t0,1,2,3,4,5,6,7;", 2, 67);
        dueFault(text + "t0,1,2,3,4,5,6,", 1, 67);
        text = new StringBuilder("y1;");
        for (int i = 0; i < 10; i++) {
            text.append("x").append(i / 5).append(" ").append(i % 5).append(";");
        }
        of(text.toString());
        dueFault(text + "x", 3, 53);
        dueFault(text + "x0 0;", 3, 53);
        dueFault("y1;x0 0;x0 0;", 4, 11);
        dueFault("y1;x4 4;x 4 04 ;", 4, 12);
        dueFault("y1;w0 1 0;t0,0;", 4, 13);
        dueFault("y1;w0 1 0;w0 1 0;t1,0, 001;", 4, 23);
    }

    private static void blanksAndNumbers() {
        GrudgeYard x = of("  y 003 , 2;  w 0 010  20 ; w4 30 0;x0 1;x1 0 ; t 1 , 000 ;  ");
        due("blanks: told(0)", x.told(0), 2);
        due("blanks: told(1)", x.told(1), 2);
        due("blanks: told(2)", x.told(2), 2);
        due("blanks: road(0, 0)", x.road(0, 0), 3);
        due("blanks: wagon(0, 1)", x.wagon(0, 1), 10);
        due("blanks: wagon(0, 2)", x.wagon(0, 2), 20);
        due("a wagon behind the train", of("y1;w0 1 0;t0;w1 1 0;x1 1;").told(1), 2);
    }

    private static void told() {
        GrudgeYard x = of(SIX);
        x.feed(32);
        x.cut(2, 1);
        x.cut(1, 0);
        x.couple(1, 1, true);
        x.couple(1, 1, true);
        x.chalk(0, 1, 9);
        x.chalk(0, 1, 9);
        x.chalk(0, 1, 9);
        x.write(0, 1, 0);
        int[] want = {3, 6, 4, 1, 3, 2, 1, 1, 2, 3, 1, 2};
        for (int what = 0; what < want.length; what++) {
            due("told(" + what + ")", x.told(what), want[what]);
        }
        due("told(12)", x.told(12), OUTSIDE);
        due("told(-1)", x.told(-1), OUTSIDE);
        due("told(LOW)", x.told(LOW), OUTSIDE);
        due("told(HIGH)", x.told(HIGH), OUTSIDE);
    }

    private static void wagon() {
        GrudgeYard x = of(SIX);
        int[] want = {0, 30, 20, NONE, 2, 50};
        for (int what = 0; what < want.length; what++) {
            due("wagon(2, " + what + ")", x.wagon(2, what), want[what]);
        }
        x.cut(1, 0);
        due("wagon(0, 3) in a road", x.wagon(0, 3), 0);
        due("wagon(2, 4) behind a cut", x.wagon(2, 4), 1);
        x.cut(2, 2);
        due("wagon(2, 3) in a road", x.wagon(2, 3), 2);
        due("wagon(2, 4) in a road", x.wagon(2, 4), 1);
        due("wagon(1, 4) in a road", x.wagon(1, 4), 0);
        due("wagon(6, 0)", x.wagon(6, 0), UNKNOWN);
        due("wagon(-1, 9)", x.wagon(-1, 9), UNKNOWN);
        due("wagon(0, 6)", x.wagon(0, 6), OUTSIDE);
        due("wagon(0, -1)", x.wagon(0, -1), OUTSIDE);
        due("the slowest", of("y1;w0 1 20;").wagon(0, 5), 21);
        due("the fastest", of("y1;w0 30 0;").wagon(0, 5), 90);
    }

    private static void road() {
        GrudgeYard x = of(SIX);
        due("road(0, 0)", x.road(0, 0), 3);
        due("road(2, 0)", x.road(2, 0), 4);
        x.cut(4, 2);
        x.peace(2, 2);
        x.peace(2, 0);
        due("road(2, 1)", x.road(2, 1), 4);
        due("road(2, 2)", x.road(2, 2), 5);
        due("road(0, 2)", x.road(0, 2), 0);
        due("road(3, 0)", x.road(3, 0), UNKNOWN);
        due("road(-1, 7)", x.road(-1, 7), UNKNOWN);
        due("road(0, 3)", x.road(0, 3), OUTSIDE);
        due("road(0, -1)", x.road(0, -1), OUTSIDE);
    }

    private static void at() {
        GrudgeYard x = of(SIX);
        x.cut(2, 2);
        dueHump("at", x, 2, 3, 4, 5);
        dueRoad("at", x, 2, 0, 1);
        due("at(2, -1)", x.at(2, -1), NONE);
        due("at(-1, -1)", x.at(NONE, -1), NONE);
        due("at(-1, LOW)", x.at(NONE, LOW), NONE);
        due("at(-1, HIGH)", x.at(NONE, HIGH), NONE);
        due("at(2, HIGH)", x.at(2, HIGH), NONE);
        due("at(3, 0)", x.at(3, 0), UNKNOWN);
        due("at(4, 0)", x.at(4, 0), UNKNOWN);
        due("at(-2, 0)", x.at(-2, 0), UNKNOWN);
    }

    private static void enemies() {
        GrudgeYard x = of("y1;x0 1;x2 2;x0 4;x4 1;x4 4;");
        due("enemies(0, 1)", x.enemies(0, 1), 1);
        due("enemies(1, 0)", x.enemies(1, 0), 0);
        due("enemies(2, 2)", x.enemies(2, 2), 1);
        due("enemies(0, 4)", x.enemies(0, 4), 0);
        due("enemies(4, 1)", x.enemies(4, 1), 0);
        due("enemies(4, 4)", x.enemies(4, 4), 0);
        due("enemies(5, 0)", x.enemies(5, 0), UNKNOWN);
        due("enemies(0, 5)", x.enemies(0, 5), UNKNOWN);
        due("enemies(-1, 0)", x.enemies(-1, 0), UNKNOWN);
        due("enemies(0, -1)", x.enemies(0, -1), UNKNOWN);
    }

    private static void cut() {
        GrudgeYard x = of(SIX);
        due("cut(3, 1) without room", x.cut(3, 1), NOT);
        due("cut(7, 2) of six", x.cut(7, 2), NOT);
        due("cut(8, 3)", x.cut(8, 3), UNKNOWN);
        due("cut(1, -1)", x.cut(1, NONE), UNKNOWN);
        due("cut(0, 0)", x.cut(0, 0), OUTSIDE);
        due("cut(8, 0)", x.cut(8, 0), OUTSIDE);
        due("refused cuts change nothing", x.told(5) + x.told(11), 0);
        due("cut(1, 1)", x.cut(1, 1), 0);
        due("no kick yet", x.told(7), NONE);
        due("cut(3, 0): kinds 1 0 4", x.cut(3, 0), 1);
        due("the first kick", x.told(7), 12);
        due("cut(1, 1): kinds 0 2", x.cut(1, 1), 0);
        due("cut(1, 1) into a full road", x.cut(1, 1), NOT);
        due("cuts", x.told(5), 3);
        due("kicks", x.told(6), 1);
        dueRoad("cut", x, 0, 1, 2, 3);
        dueRoad("cut", x, 1, 0, 4);
        dueHump("cut", x, 5);
        due("cut(7, 3)", of(SEVEN).cut(7, 3), 6);
        GrudgeYard circus = of("y3;w0 1 0;w4 1 0;w0 1 0;x0 4;x4 0;x0 0;");
        due("a circus stands by anybody", circus.cut(3, 0), 0);
    }

    private static void pull() {
        GrudgeYard x = of(SIX);
        x.cut(3, 0);
        x.cut(1, 1);
        x.peace(0, 1);
        due("pull(2) of none", x.pull(2), NOT);
        due("pull(3)", x.pull(3), UNKNOWN);
        due("pull(-1)", x.pull(NONE), UNKNOWN);
        due("pull(0)", x.pull(0), 3);
        dueHump("pull", x, 2, 1, 0, 4, 5);
        due("peace is gone", x.road(0, 2), 0);
        due("kicks stay", x.told(6), 2);
        due("pulls are no cuts", x.told(5), 2);
        due("kicks again", x.cut(3, 0), 2);
        due("kicks in all", x.told(6), 4);
        due("the first kick stays", x.told(7), 1);
    }

    private static void peace() {
        GrudgeYard x = of(SIX);
        x.cut(4, 2);
        due("peace(2, 1)", x.peace(2, 1), 1);
        due("peace(2, 1) again", x.peace(2, 1), NOT);
        due("peace(2, 2) by a circus", x.peace(2, 2), 0);
        due("peace(2, 3) behind the last", x.peace(2, 3), NOT);
        due("peace(2, -1)", x.peace(2, -1), NOT);
        due("peace(2, HIGH)", x.peace(2, HIGH), NOT);
        due("peace(2, LOW)", x.peace(2, LOW), NOT);
        due("peace(2, 32)", x.peace(2, 32), NOT);
        due("peace(0, 0) in an empty road", x.peace(0, 0), NOT);
        due("peace(3, 0)", x.peace(3, 0), UNKNOWN);
        due("peace(-1, 0)", x.peace(NONE, 0), UNKNOWN);
        due("what was counted stays", x.told(6), 2);
        due("no room is taken", x.road(2, 1), 4);
        x.cut(1, 0);
        due("peace(0, 0) behind one alone", x.peace(0, 0), NOT);
    }

    private static void drift() {
        GrudgeYard none = new GrudgeYard();
        due("drift(0) without roads", none.drift(0), OUTSIDE);
        due("drift(60) without roads", none.drift(60), NOT);
        due("refused: the seed stays", none.seed(0), 0);
        GrudgeYard x = of("y2,1;w0 1 0;w0 1 0;w0 1 0;x0 0;");
        due("drift(61)", x.drift(61), OUTSIDE);
        due("drift(-1)", x.drift(-1), OUTSIDE);
        // The seeds from 0 on: 12345, 1406932606, 654583775, 1449466924, 229283573, 1109335178.
        // So the draws of two: 0, 0, 0, 1, 0, 1.
        due("drift(1)", x.drift(1), 1);
        dueRoad("drift(1)", x, 0, 0);
        due("drift(1)", x.drift(1), 2);
        dueRoad("drift(2)", x, 0, 0, 1);
        due("its kick", x.told(7), 1);
        due("drift(1) into a full road", x.drift(1), 2);
        due("drift(1)", x.drift(1), 3);
        dueRoad("drift(4)", x, 1, 2);
        due("drift(1) pulls", x.drift(1), 3);
        dueHump("drift(5)", x, 1, 0);
        due("drift(1) into a full road", x.drift(1), 3);
        due("each can be undone", x.told(11), 6);
        due("the seed", x.seed(0), 1109335178);
        due("no wagons", of("y1;").drift(60), 0);
        driftUntilFull();
    }

    /** No object gets so far in 512 calls; the refusal is told all the same. */
    private static void driftUntilFull() {
        GrudgeYard x = of(SEVEN);
        for (int i = 0; i < 3000 && x.told(5) <= 90000; i++) {
            x.drift(60);
        }
        int cuts = x.told(5);
        due("above 90000 cuts", cuts > 90000 ? 1 : 0, 1);
        due("drift(60) of so many", x.drift(60), FULL);
        due("drift(61) of so many", x.drift(61), OUTSIDE);
        due("the cuts stay", x.told(5), cuts);
    }

    private static void undo() {
        GrudgeYard x = of(SEVEN);
        due("undo() of nothing", x.undo(), NOT);
        x.cut(2, 0);
        x.peace(0, 0);
        x.pull(0);
        x.seed(5);
        x.drift(60);
        int drawn = x.seed(9);
        x.cut(0, 0);
        due("undo() of drift", x.undo(), 3);
        dueHump("undo of drift", x, 1, 0, 2, 3, 4, 5, 6);
        due("the seed stays", x.seed(9), 9);
        due("it was drawn", drawn == 5 ? 1 : 0, 0);
        due("undo() of pull", x.undo(), 2);
        due("peace is back", x.road(0, 2), 1);
        dueRoad("undo of pull", x, 0, 0, 1);
        due("undo() of peace", x.undo(), 1);
        due("peace is gone", x.road(0, 2), 0);
        due("undo() of cut", x.undo(), 0);
        due("no kick", x.told(6), 0);
        due("no first kick", x.told(7), NONE);
        due("no cut", x.told(5), 0);
        due("undo() of no more", x.undo(), NOT);
        for (int i = 0; i < 23; i++) {
            due("cut and pull", i % 2 == 0 ? x.cut(1, i % 4) : x.pull((i - 1) % 4), i % 2 == 0 ? 0 : 1);
        }
        due("twenty are kept", x.told(11), 20);
        for (int i = 19; i >= 0; i--) {
            due("undo()", x.undo(), i);
        }
        due("the oldest are lost", x.undo(), NOT);
        due("behind the third", x.told(5), 2);
        dueRoad("behind the third", x, 2, 0);
    }

    private static void plan() {
        GrudgeYard x = of(SIX);
        int[] roads = {0, 1, 2, 2, 2, 1};
        due("plan: kicks", x.plan(NONE), 0);
        due("plan: cuts", x.plan(-2), 4);
        for (int i = 0; i < roads.length; i++) {
            due("plan(" + i + ")", x.plan(i), roads[i]);
        }
        due("plan(6)", x.plan(6), NONE);
        due("plan(7)", x.plan(7), NONE);
        due("plan(-3)", x.plan(-3), NONE);
        due("plan(LOW)", x.plan(LOW), NONE);
        due("plan(HIGH)", x.plan(HIGH), NONE);
        due("nothing changes", x.told(4) + x.told(11), 6);
        GrudgeYard tight = of("y1,1;w0 1 0;w0 1 0;w0 1 0;");
        due("no room for all: kicks", tight.plan(NONE), NONE);
        due("no room for all: cuts", tight.plan(-2), NONE);
        due("no room for all: a road", tight.plan(0), NONE);
        tight.cut(1, 1);
        due("still no room", tight.plan(NONE), NONE);
        GrudgeYard kicks = of("y2,2;w0 1 0;w0 1 0;w0 1 0;x0 0;");
        due("one must kick", kicks.plan(NONE), 1);
        due("fewest cuts, then the first", kicks.plan(0) * 100 + kicks.plan(1) * 10 + kicks.plan(2), 1);
        due("its cuts", kicks.plan(-2), 2);
        kicks.cut(1, 1);
        due("by what stands there", kicks.plan(NONE), 1);
        due("the first of like ones", kicks.plan(0) * 10 + kicks.plan(1), 0);
        due("one cut", kicks.plan(-2), 1);
    }

    private static void leastRoads() {
        GrudgeYard x = of(SIX);
        int[] want = {0, 0, NONE, NONE, 1, 0};
        due("leastRoads(-1)", x.leastRoads(NONE), 2);
        for (int w = 0; w < want.length; w++) {
            due("leastRoads(" + w + ")", x.leastRoads(w), want[w]);
        }
        due("leastRoads(6)", x.leastRoads(6), UNKNOWN);
        due("leastRoads(-2)", x.leastRoads(-2), UNKNOWN);
        x.cut(3, 0);
        due("as they were told", x.leastRoads(NONE), 2);
        GrudgeYard none = of("y1;w0 1 0;");
        due("without a train", none.leastRoads(NONE), 0);
        due("without a train: a wagon", none.leastRoads(0), NONE);
        GrudgeYard seven = of(SEVEN + "t0,1,2,3,4,5,6;");
        due("as they come: seven", seven.leastRoads(NONE), 7);
        due("as they come: the last", seven.leastRoads(6), 6);
        due("the other way round", of(SEVEN + "t6,5,4,3,2,1,0;").leastRoads(NONE), 1);
        GrudgeYard mixed = of(SEVEN + "t3,0,5,1,6,2,4;");
        int[] roads = {0, 1, 2, 0, 3, 1, 2};
        due("mixed: how many", mixed.leastRoads(NONE), 4);
        for (int w = 0; w < roads.length; w++) {
            due("mixed: leastRoads(" + w + ")", mixed.leastRoads(w), roads[w]);
        }
    }

    private static void safe() {
        GrudgeYard x = of(SIX);
        due("safe(2, 0, 10)", x.safe(2, 0, 10), 6);
        due("safe(0, 2, 10)", x.safe(0, 2, 10), 0);
        due("safe(2, 3, 99)", x.safe(2, 3, 99), 198 - 162);
        due("safe(2, 3, 1)", x.safe(2, 3, 1), 1);
        due("safe(0, 0, 1)", x.safe(0, 0, 1), UNKNOWN);
        due("safe(6, 0, 0)", x.safe(6, 0, 0), UNKNOWN);
        due("safe(0, -1, 1)", x.safe(0, NONE, 1), UNKNOWN);
        due("safe(0, 1, 0)", x.safe(0, 1, 0), OUTSIDE);
        due("safe(0, 1, 100)", x.safe(0, 1, 100), OUTSIDE);
        due("safe(0, 1, LOW)", x.safe(0, 1, LOW), OUTSIDE);
    }

    private static void foremen() {
        GrudgeYard x = of(SIX);
        int[] want = {0, 1, 1, 1, 1, 1, 1};
        for (int n = 1; n <= 7; n++) {
            due("foremen(" + n + ")", x.foremen(n), want[n - 1]);
        }
        due("foremen(0)", x.foremen(0), OUTSIDE);
        due("foremen(8)", x.foremen(8), OUTSIDE);
        due("foremen(-1)", x.foremen(-1), OUTSIDE);
        due("nothing changes", x.told(4) + x.told(11), 6);
        // The first one flees to a fresh road each time, the other one kicks each time.
        due("seven by turns", of(SEVEN).foremen(7), 3);
        GrudgeYard full = of("y1,1;w0 1 0;w0 1 0;w0 1 0;x0 0;");
        due("none has room: it ends", full.foremen(7), 0);
        GrudgeYard one = of("y7;w0 1 0;w0 1 0;w0 1 0;x0 0;");
        due("no choice", one.foremen(3), 2);
        one.cut(1, 0);
        due("new kicks, behind what stands", one.foremen(1), 1);
        due("wagons end", one.foremen(7), 2);
    }

    private static void fewest() {
        GrudgeYard x = of(SEVEN);
        due("fewest(0) of none", x.fewest(0), 0);
        x.cut(7, 0);
        due("fewest(0)", x.fewest(0), 6);
        x.peace(0, 5);
        x.peace(0, 0);
        due("fewest(0) behind peace", x.fewest(0), 4);
        due("fewest(1)", x.fewest(1), 0);
        due("fewest(4)", x.fewest(4), UNKNOWN);
        due("fewest(-1)", x.fewest(NONE), UNKNOWN);
        x.pull(0);
        x.cut(7, 0);
        due("fewest(0) again", x.fewest(0), 6);
    }

    private static void rusted() {
        GrudgeYard x = new GrudgeYard();
        due("rusted(0, 0)", x.rusted(0, 0), 1000000000);
        due("rusted(0, 100)", x.rusted(0, 100), 1000000000);
        due("rusted(1, 100)", x.rusted(1, 100), 0);
        due("rusted(60, 0)", x.rusted(60, 0), 1000000000);
        due("rusted(10, 5): cut each time", x.rusted(10, 5), 598736937);
        due("rusted(3, 99)", x.rusted(3, 99), 1000);
        due("rusted(60, 99)", x.rusted(60, 99), 0);
        due("rusted(61, 5)", x.rusted(61, 5), OUTSIDE);
        due("rusted(-1, 5)", x.rusted(-1, 5), OUTSIDE);
        due("rusted(1, 101)", x.rusted(1, 101), OUTSIDE);
        due("rusted(1, -1)", x.rusted(1, -1), OUTSIDE);
    }

    private static void couple() {
        GrudgeYard x = new GrudgeYard();
        due("couple(5, 0)", x.couple(5, 0, true), UNKNOWN);
        due("couple(0, 5)", x.couple(0, 5, true), UNKNOWN);
        due("couple(-1, 0)", x.couple(-1, 0, true), UNKNOWN);
        due("couple(0, -1)", x.couple(0, -1, true), UNKNOWN);
        for (int i = 1; i <= 8; i++) {
            due("couple " + i, x.couple(4, 4, false), i);
        }
        due("couple 9", x.couple(4, 4, true), FULL);
        due("couple 9 of no kind", x.couple(9, 4, true), UNKNOWN);
        due("refused", x.laws(NONE), 0);
    }

    private static void laws() {
        GrudgeYard x = new GrudgeYard();
        due("laws(0)", x.laws(0), 1);
        due("laws(8)", x.laws(8), 12870);
        due("laws(16)", x.laws(16), 1);
        due("laws(17)", x.laws(17), OUTSIDE);
        due("laws(-2)", x.laws(-2), OUTSIDE);
        x.couple(3, 3, true);
        x.couple(0, 3, true);
        x.couple(3, 0, false);
        due("least", x.laws(NONE), 2);
        due("laws(1)", x.laws(1), 0);
        due("laws(2)", x.laws(2), 1);
        due("laws(4)", x.laws(4), 78);
        due("laws(15)", x.laws(15), 1);
        due("laws(16)", x.laws(16), 0);
        x.couple(3, 3, false);
        due("the latest counts", x.laws(NONE), 1);
        due("the latest counts: laws(2)", x.laws(2), 13);
        x.couple(0, 4, true);
        due("a circus kicked", x.laws(NONE), NONE);
        due("a circus kicked: laws(1)", x.laws(1), 0);
        due("a circus kicked: laws(17)", x.laws(17), OUTSIDE);
        x.couple(0, 4, false);
        due("it did not, at last", x.laws(NONE), 1);
        x.couple(4, 0, true);
        due("a circus kicked from ahead", x.laws(NONE), NONE);
    }

    private static void next() {
        GrudgeYard x = new GrudgeYard();
        int[] pairs = {0, 1, 2, 3, 10, 11, 12};
        for (int pair : pairs) {
            due("next()", x.next(), pair);
            x.couple(pair / 10, pair % 10, pair % 2 == 0);
        }
        due("next() behind seven", x.next(), 13);
        x.tear();
        x.couple(0, 4, false);
        x.couple(4, 0, false);
        due("next() behind circuses", x.next(), 0);
        x.couple(0, 1, false);
        due("next() ahead of one tried", x.next(), 0);
        x.couple(0, 0, false);
        due("next() between", x.next(), 2);
    }

    private static void chalk() {
        GrudgeYard x = of(SIX);
        due("chalk(3, 0, 0)", x.chalk(3, 0, 0), UNKNOWN);
        due("chalk(-1, 0, 0)", x.chalk(NONE, 0, 0), UNKNOWN);
        due("chalk(0, 0, 5)", x.chalk(0, 0, 5), UNKNOWN);
        due("chalk(0, 0, -1)", x.chalk(0, 0, NONE), UNKNOWN);
        due("chalk(0, 9, 8)", x.chalk(0, 9, 8), UNKNOWN);
        due("chalk(0, 7, 9)", x.chalk(0, 7, 9), OUTSIDE);
        due("chalk(0, -1, 0)", x.chalk(0, -1, 0), OUTSIDE);
        for (int i = 1; i <= 6; i++) {
            due("chalk " + i, x.chalk(0, 6, 9), i);
        }
        due("chalk 7", x.chalk(0, 6, 9), FULL);
        due("chalk 7 outside", x.chalk(0, 7, 9), OUTSIDE);
    }

    private static void fit() {
        GrudgeYard x = of(SIX);
        due("fit(-1)", x.fit(NONE), 410);
        x.chalk(0, 0, 0);
        due("fit(-1) by one", x.fit(NONE), 209);
        x.chalk(0, 0, 1);
        due("fit(-1) of two that gainsay", x.fit(NONE), 0);
        due("fit(0) of none", x.fit(0), NONE);
        x.tear();
        x.chalk(1, 0, 9);
        x.chalk(0, 2, 1);
        x.chalk(0, 1, 4);
        // Wagons 3 and 5 stand behind one of 0, 1, 2.
        due("fit(-1) by three", x.fit(NONE), 3);
        due("fit(5)", x.fit(5), 0);
        due("fit(3)", x.fit(3), 0);
        due("fit(4)", x.fit(4), 2);
        due("fit(0)", x.fit(0), NONE);
        due("fit(6)", x.fit(6), NONE);
        due("fit(-2)", x.fit(-2), NONE);
        due("fit(HIGH)", x.fit(HIGH), NONE);
        due("nothing changes", x.told(4), 6);
        x.tear();
        x.cut(1, 1);
        x.chalk(1, 0, 0);
        x.chalk(1, 1, 1);
        // Wagon 1 or 5 comes into road 1; the other four are not all in road 0.
        due("by what stands there", x.fit(NONE), 30);
        x.chalk(1, 0, 9);
        due("nobody, where one stands", x.fit(NONE), 0);
        GrudgeYard one = of("y2,7;w0 1 0;");
        one.chalk(1, 0, 0);
        due("sure of the head", one.fit(0), 1);
        one.tear();
        one.chalk(0, 2, 9);
        due("nobody beyond the room", one.fit(NONE), 2);
        one.chalk(0, 2, 0);
        due("a kind beyond the room", one.fit(NONE), 0);
        GrudgeYard tight = of("y1;w0 1 0;w0 1 0;");
        due("no room for all", tight.fit(NONE), 0);
        tight.cut(1, 0);
        due("still no room", tight.fit(NONE), 0);
        GrudgeYard done = of("y1;w0 1 0;");
        done.cut(1, 0);
        due("none on the hump", done.fit(NONE), 1);
        due("none on the hump: fit(0)", done.fit(0), NONE);
        done.chalk(0, 0, 1);
        due("another kind stands there", done.fit(NONE), 0);
        due("four roads, seven wagons", of(SEVEN).fit(NONE), 16384);
    }

    private static void write() {
        GrudgeYard x = of(SIX);
        due("write(3, 0, 0)", x.write(3, 0, 0), UNKNOWN);
        due("write(-1, 0, 0)", x.write(NONE, 0, 0), UNKNOWN);
        due("write(0, 9, 6)", x.write(0, 9, 6), UNKNOWN);
        due("write(0, 0, -2)", x.write(0, 0, -2), UNKNOWN);
        due("write(0, 7, 0)", x.write(0, 7, 0), OUTSIDE);
        due("write(0, -1, 0)", x.write(0, -1, 0), OUTSIDE);
        for (int i = 1; i <= 15; i++) {
            due("write " + i, x.write(2, 6, NONE), i);
        }
        due("write 16", x.write(2, 6, NONE), FULL);
        due("write 16 outside", x.write(2, 7, NONE), OUTSIDE);
    }

    private static void tear() {
        GrudgeYard x = of(SIX);
        due("tear() of nothing", x.tear(), 0);
        x.couple(0, 0, true);
        x.chalk(0, 0, 1);
        x.chalk(0, 0, 2);
        x.write(0, 0, 3);
        x.write(0, 0, 3);
        x.write(0, 0, 3);
        x.cut(1, 2);
        due("tear()", x.tear(), 6);
        due("tear() again", x.tear(), 0);
        due("laws(0)", x.laws(0), 1);
        due("next()", x.next(), 0);
        due("judge()", x.judge(), NONE);
        due("fit(-1)", x.fit(NONE) > 0 ? 1 : 0, 1);
        due("what is done stays", x.told(11), 1);
    }

    private static void judge() {
        GrudgeYard x = of(SIX);
        due("judge() of no book", x.judge(), NONE);
        x.write(0, 0, 0);
        due("nobody yet", x.judge(), 0);
        x.cut(2, 0);
        due("as it is written", x.judge(), NONE);
        x.write(0, 1, 1);
        x.write(1, 6, NONE);
        x.write(0, 1, 2);
        x.write(1, 1, 2);
        due("the first that is otherwise", x.judge(), 3);
        x.pull(0);
        due("the first of all", x.judge(), 0);
    }

    private static void seed() {
        GrudgeYard x = of("y1;");
        due("seed(0)", x.seed(0), 0);
        due("seed(-1)", x.seed(-1), OUTSIDE);
        due("seed(LOW)", x.seed(LOW), OUTSIDE);
        due("seed(HIGH)", x.seed(HIGH), 0);
        due("refused seed(-1)", x.seed(-1), OUTSIDE);
        x.drift(1);
        due("drawn from 2147483647", x.seed(0), 1043980748);
        x.drift(2);
        due("drawn twice from 0", x.seed(0), 1406932606);
    }

    private static void keep() {
        GrudgeYard x = of(SIX);
        x.cut(2, 0);
        due("keep(2)", x.keep(2), UNKNOWN);
        due("keep(-1)", x.keep(-1), UNKNOWN);
        due("refused: undo stays", x.told(11), 1);
        due("keep(1)", x.keep(1), 1);
        due("nothing can be undone", x.told(11), 0);
        due("nothing can be undone", x.undo(), NOT);
        due("the other is not kept", x.goBack(0), NOT);
        x.cut(1, 2);
        due("keep(1) anew", x.keep(1), 1);
        x.pull(0);
        due("goBack(1)", x.goBack(1), 1);
        dueHump("kept anew", x, 3, 4, 5);
    }

    private static void goBack() {
        GrudgeYard x = of(SIX);
        due("goBack(0)", x.goBack(0), NOT);
        due("goBack(2)", x.goBack(2), UNKNOWN);
        due("goBack(-1)", x.goBack(-1), UNKNOWN);
        x.seed(5);
        x.keep(0);
        x.cut(3, 0);
        x.peace(0, 1);
        x.seed(6);
        x.keep(1);
        x.write(0, 0, 0);
        x.chalk(0, 0, 0);
        x.couple(0, 0, true);
        x.pull(0);
        due("goBack(0)", x.goBack(0), 1);
        due("nothing can be undone", x.undo(), NOT);
        dueHump("goBack(0)", x, 0, 1, 2, 3, 4, 5);
        due("kicks", x.told(6), 0);
        due("the first kick", x.told(7), NONE);
        due("the seed", x.seed(99), 5);
        due("goBack(1)", x.goBack(1), 1);
        dueRoad("goBack(1)", x, 0, 0, 1, 2);
        due("peace", x.road(0, 2), 2);
        due("kicks", x.told(6), 2);
        due("cuts", x.told(5), 1);
        due("the first kick", x.told(7), 1);
        due("the seed", x.seed(99), 6);
        due("the book stays", x.told(10), 1);
        due("chalk stays", x.told(9), 1);
        due("couplings stay", x.told(8), 1);
        x.pull(0);
        due("goBack(1) again", x.goBack(1), 1);
        dueRoad("goBack(1) again", x, 0, 0, 1, 2);
    }
}
