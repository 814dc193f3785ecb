import java.util.ArrayList;
import java.util.List;
import java.util.function.Supplier;
import java.util.function.ToIntFunction;

/**
 * What the document says of all calls alike (the order of refusals, that a refused call and a tried
 * one change nothing), of what yard() ends, of draws and of images; promises 3 and 29 to 31. Each
 * sentence has a test of its own, which begins with its words.
 */
public final class KeptBoundsTest extends YardTest {
    public static void main(String[] args) {
        constants();
        firstOfSeveralRefusals();
        firstOfRefusalsOfFull();
        refusedChangesNothing();
        refusedOfFullChangesNothing();
        refusedOfNewChangesNothing();
        triedChangesNothing();
        yardBeginsAnew();
        goneByYard();
        seedStaysByYard();
        faultLeavesAll();
        faultLeavesImagesAndPast();
        seedAtFirst();
        seedBounds();
        seedWrapsAround();
        drawsOfRoads();
        drawsByCalls();
        imagesKeepAll();
        imagesKeepNoMore();
        imagesAreApart();
        keepUnknown();
        nothingUndoneByKeep();
        nothingUndoneByGoBack();
        goBackNotKept();
        imagesStay();
        end("the bounds of what is kept hold");
    }

    private static void constants() {
        says("They are far below all that is counted: -1000000001 and on.");
        due("NONE", NONE, -1);
        due("UNKNOWN", UNKNOWN, -1000000001);
        due("OUTSIDE", OUTSIDE, -1000000002);
        due("NOT", NOT, -1000000003);
        due("FULL", FULL, -1000000004);
    }

    private static void firstOfSeveralRefusals() {
        says("REFUSALS, of several the first in this order");
        GrudgeYard x = of(SIX);
        due("wagon: UNKNOWN, OUTSIDE", x.wagon(6, 6), UNKNOWN);
        due("road: UNKNOWN, OUTSIDE", x.road(3, 3), UNKNOWN);
        due("cut: UNKNOWN, OUTSIDE", x.cut(8, 3), UNKNOWN);
        due("cut: UNKNOWN, NOT", x.cut(7, 3), UNKNOWN);
        due("cut: OUTSIDE, NOT", x.cut(8, 1), OUTSIDE);
        due("pull: UNKNOWN, NOT", x.pull(3), UNKNOWN);
        due("peace: UNKNOWN, NOT", x.peace(3, 0), UNKNOWN);
        due("safe: UNKNOWN, OUTSIDE", x.safe(0, 6, 0), UNKNOWN);
        due("safe: one twice, OUTSIDE", x.safe(1, 1, 100), UNKNOWN);
        due("chalk: UNKNOWN, OUTSIDE", x.chalk(3, 7, 0), UNKNOWN);
        due("chalk: UNKNOWN KIND, OUTSIDE", x.chalk(0, 7, 5), UNKNOWN);
        due("write: UNKNOWN, OUTSIDE", x.write(3, 7, 0), UNKNOWN);
        due("write: UNKNOWN WAGON, OUTSIDE", x.write(0, 7, 6), UNKNOWN);
        due("goBack: UNKNOWN, NOT", x.goBack(2), UNKNOWN);
        due("drift: OUTSIDE, NOT", new GrudgeYard().drift(61), OUTSIDE);
        due("cut without a yard: UNKNOWN, OUTSIDE, NOT", new GrudgeYard().cut(0, 0), UNKNOWN);
    }

    /** Couplings, chalk, book and text are full; the hump is empty, road 1 has no room. */
    private static GrudgeYard full() {
        GrudgeYard x = of("y3,2;w0 1 0;w0 2 0;w1 3 0;w1 4 0;x0 0;t1,0;");
        x.cut(2, 1);
        x.cut(2, 0);
        x.peace(1, 0);
        for (int i = 0; i < 15; i++) {
            x.write(1, 0, 0);
        }
        for (int i = 0; i < 8; i++) {
            x.couple(0, 1, true);
        }
        for (int i = 0; i < 6; i++) {
            x.chalk(0, 0, 1);
        }
        return x;
    }

    private static void firstOfRefusalsOfFull() {
        says("REFUSALS, of several the first in this order");
        GrudgeYard x = full();
        due("couple: UNKNOWN, FULL", x.couple(5, 0, true), UNKNOWN);
        due("couple: FULL", x.couple(4, 0, true), FULL);
        due("chalk: UNKNOWN, FULL", x.chalk(2, 0, 0), UNKNOWN);
        due("chalk: UNKNOWN KIND, FULL", x.chalk(0, 0, 8), UNKNOWN);
        due("chalk: OUTSIDE, FULL", x.chalk(0, 7, 9), OUTSIDE);
        due("chalk: FULL", x.chalk(0, 6, 9), FULL);
        due("write: UNKNOWN, FULL", x.write(2, 0, 0), UNKNOWN);
        due("write: UNKNOWN WAGON, FULL", x.write(0, 0, 4), UNKNOWN);
        due("write: OUTSIDE, FULL", x.write(0, 7, 0), OUTSIDE);
        due("write: FULL", x.write(0, 6, 0), FULL);
        due("cut: OUTSIDE, NOT", x.cut(0, 1), OUTSIDE);
        due("cut: NOT", x.cut(1, 1), NOT);
        for (int i = 0; i < 230; i++) {
            x.feed(' ');
        }
        due("feed: OUTSIDE, FULL", x.feed(NONE), OUTSIDE);
        due("feed: FULL", x.feed(' '), FULL);
    }

    /** A call that is refused: another object without that call answers all else alike. */
    private static void dueNothing(String name, Supplier<GrudgeYard> made, int refusal,
            ToIntFunction<GrudgeYard> call) {
        GrudgeYard asked = made.get();
        GrudgeYard spared = made.get();
        due(name, call.applyAsInt(asked), refusal);
        due(name + " changes nothing", picture(asked).equals(picture(spared)));
        due(name + " changes nothing that can be undone", past(asked).equals(past(spared)));
        due(name + " changes no image", images(asked).equals(images(spared)));
    }

    /** All that can be undone, from the latest on. */
    private static List<Integer> past(GrudgeYard x) {
        List<Integer> answers = new ArrayList<>();
        for (int left = x.told(11); left > 0; left--) {
            answers.add(x.undo());
            answers.addAll(stand(x));
        }
        answers.add(x.undo());
        return answers;
    }

    private static List<Integer> images(GrudgeYard x) {
        List<Integer> answers = new ArrayList<>();
        for (int i = 0; i <= 1; i++) {
            answers.add(x.goBack(i));
            answers.addAll(stand(x));
            answers.add(x.seed(0));
        }
        return answers;
    }

    private static void refusedChangesNothing() {
        says("What is refused changes nothing.");
        dueNothing("feed(256)", KeptBoundsTest::worked, OUTSIDE, x -> x.feed(256));
        dueNothing("told(12)", KeptBoundsTest::worked, OUTSIDE, x -> x.told(12));
        dueNothing("wagon(6, 0)", KeptBoundsTest::worked, UNKNOWN, x -> x.wagon(6, 0));
        dueNothing("wagon(0, 6)", KeptBoundsTest::worked, OUTSIDE, x -> x.wagon(0, 6));
        dueNothing("road(3, 0)", KeptBoundsTest::worked, UNKNOWN, x -> x.road(3, 0));
        dueNothing("at(3, 0)", KeptBoundsTest::worked, UNKNOWN, x -> x.at(3, 0));
        dueNothing("enemies(5, 0)", KeptBoundsTest::worked, UNKNOWN, x -> x.enemies(5, 0));
        dueNothing("cut(1, 3)", KeptBoundsTest::worked, UNKNOWN, x -> x.cut(1, 3));
        dueNothing("cut(0, 1)", KeptBoundsTest::worked, OUTSIDE, x -> x.cut(0, 1));
        dueNothing("cut(3, 1)", KeptBoundsTest::worked, NOT, x -> x.cut(3, 1));
        dueNothing("cut(5, 2)", KeptBoundsTest::worked, NOT, x -> x.cut(5, 2));
        dueNothing("pull(3)", KeptBoundsTest::worked, UNKNOWN, x -> x.pull(3));
        dueNothing("pull(1)", KeptBoundsTest::worked, NOT, x -> x.pull(1));
        dueNothing("peace(3, 0)", KeptBoundsTest::worked, UNKNOWN, x -> x.peace(3, 0));
        dueNothing("peace(0, 0)", KeptBoundsTest::worked, NOT, x -> x.peace(0, 0));
        dueNothing("peace(0, 1)", KeptBoundsTest::worked, NOT, x -> x.peace(0, 1));
        dueNothing("drift(0)", KeptBoundsTest::worked, OUTSIDE, x -> x.drift(0));
        dueNothing("drift(61)", KeptBoundsTest::worked, OUTSIDE, x -> x.drift(61));
        dueNothing("leastRoads(6)", KeptBoundsTest::worked, UNKNOWN, x -> x.leastRoads(6));
        dueNothing("safe(1, 1, 1)", KeptBoundsTest::worked, UNKNOWN, x -> x.safe(1, 1, 1));
        dueNothing("safe(0, 1, 100)", KeptBoundsTest::worked, OUTSIDE, x -> x.safe(0, 1, 100));
        dueNothing("foremen(8)", KeptBoundsTest::worked, OUTSIDE, x -> x.foremen(8));
        dueNothing("fewest(3)", KeptBoundsTest::worked, UNKNOWN, x -> x.fewest(3));
        dueNothing("rusted(61, 0)", KeptBoundsTest::worked, OUTSIDE, x -> x.rusted(61, 0));
        dueNothing("couple(5, 0)", KeptBoundsTest::worked, UNKNOWN, x -> x.couple(5, 0, true));
        dueNothing("laws(17)", KeptBoundsTest::worked, OUTSIDE, x -> x.laws(17));
        dueNothing("chalk(3, 0, 0)", KeptBoundsTest::worked, UNKNOWN, x -> x.chalk(3, 0, 0));
        dueNothing("chalk(0, 0, 5)", KeptBoundsTest::worked, UNKNOWN, x -> x.chalk(0, 0, 5));
        dueNothing("chalk(0, 7, 0)", KeptBoundsTest::worked, OUTSIDE, x -> x.chalk(0, 7, 0));
        dueNothing("write(3, 0, 0)", KeptBoundsTest::worked, UNKNOWN, x -> x.write(3, 0, 0));
        dueNothing("write(0, 0, 6)", KeptBoundsTest::worked, UNKNOWN, x -> x.write(0, 0, 6));
        dueNothing("write(0, 7, 0)", KeptBoundsTest::worked, OUTSIDE, x -> x.write(0, 7, 0));
        dueNothing("seed(-1)", KeptBoundsTest::worked, OUTSIDE, x -> x.seed(-1));
        dueNothing("keep(2)", KeptBoundsTest::worked, UNKNOWN, x -> x.keep(2));
        dueNothing("goBack(2)", KeptBoundsTest::worked, UNKNOWN, x -> x.goBack(2));
        dueNothing("goBack(1)", KeptBoundsTest::worked, NOT, x -> x.goBack(1));
    }

    /** Six wagons of which two stand in road 0, in peace; some of all else. */
    private static GrudgeYard worked() {
        GrudgeYard x = of(SIX);
        x.keep(0);
        x.seed(9);
        x.cut(2, 0);
        x.peace(0, 0);
        x.couple(0, 1, true);
        x.chalk(0, 2, 4);
        x.write(0, 1, 0);
        x.feed('y');
        return x;
    }

    private static void refusedOfFullChangesNothing() {
        says("What is refused changes nothing.");
        dueNothing("couple(4, 4, true)", KeptBoundsTest::full, FULL, x -> x.couple(4, 4, true));
        dueNothing("couple(0, 1, false)", KeptBoundsTest::full, FULL, x -> x.couple(0, 1, false));
        dueNothing("chalk(0, 0, 9)", KeptBoundsTest::full, FULL, x -> x.chalk(0, 0, 9));
        dueNothing("write(1, 0, 3)", KeptBoundsTest::full, FULL, x -> x.write(1, 0, 3));
        dueNothing("cut(1, 0)", KeptBoundsTest::full, NOT, x -> x.cut(1, 0));
        GrudgeYard letters = new GrudgeYard();
        feedAll(letters, "y7;" + " ".repeat(227));
        due("feed('z')", letters.feed('z'), FULL);
        due("letters", letters.told(3), 230);
        due("the text is as it was", letters.yard(), 0);
        due("its road", letters.road(0, 0), 7);
    }

    private static void refusedOfNewChangesNothing() {
        says("What is refused changes nothing.");
        dueNothing("drift(60)", GrudgeYard::new, NOT, x -> x.drift(60));
        dueNothing("undo()", GrudgeYard::new, NOT, GrudgeYard::undo);
        dueNothing("goBack(0)", GrudgeYard::new, NOT, x -> x.goBack(0));
        dueNothing("cut(1, 0)", GrudgeYard::new, UNKNOWN, x -> x.cut(1, 0));
        dueNothing("chalk(0, 0, 9)", GrudgeYard::new, UNKNOWN, x -> x.chalk(0, 0, 9));
        dueNothing("write(0, 0, -1)", GrudgeYard::new, UNKNOWN, x -> x.write(0, 0, NONE));
    }

    private static void triedChangesNothing() {
        says("TRIED from now; nothing changes by it.");
        GrudgeYard x = worked();
        List<Integer> before = picture(x);
        for (int i = -2; i < 7; i++) {
            x.plan(i);
            x.foremen(i);
            x.fit(i);
        }
        x.leastRoads(NONE);
        x.safe(0, 1, 99);
        x.fewest(0);
        x.rusted(60, 50);
        x.laws(NONE);
        x.next();
        x.judge();
        due("as it was", picture(x).equals(before));
    }

    private static void yardBeginsAnew() {
        says("all on the HUMP, no CUTS, KICKS, PEACE; nothing tried, no CHALK, no BOOK");
        GrudgeYard x = worked();
        x.yard();
        feedAll(x, "y2,2;w0 1 0;w0 1 0;x0 0;");
        due("how many WAGONS", x.yard(), 2);
        dueTold("anew", x, 2, 2, 0, 0, 2, 0, 0, NONE, 0, 0, 0, 0);
        dueHump("anew", x, 0, 1);
        dueRoad("anew", x, 0);
        due("no PEACE", x.road(0, 2), 0);
        due("nothing tried", x.laws(NONE), 0);
        due("no pair tried", x.next(), 0);
        due("no CHALK", x.fit(NONE), 4);
        due("no BOOK", x.judge(), NONE);
        due("the old grudge is gone", x.enemies(0, 1), 0);
        due("the old road is gone", x.road(2, 0), UNKNOWN);
        due("the old wagon is gone", x.wagon(2, 0), UNKNOWN);
        due("the old train is gone", x.leastRoads(NONE), 0);
    }

    private static void goneByYard() {
        says("IMAGES, what could be undone are gone");
        String[] texts = {SEVEN, "y1;", ""};
        for (String text : texts) {
            GrudgeYard x = of(SIX);
            x.keep(0);
            x.keep(1);
            x.cut(1, 0);
            feedAll(x, text);
            x.yard();
            due("goBack(0) behind " + text, x.goBack(0), NOT);
            due("goBack(1) behind " + text, x.goBack(1), NOT);
            due("undo() behind " + text, x.undo(), NOT);
            due("told(11) behind " + text, x.told(11), 0);
        }
    }

    private static void seedStaysByYard() {
        says("IMAGES, what could be undone are gone; THE SEED stays");
        GrudgeYard x = new GrudgeYard();
        x.seed(2147483647);
        feedAll(x, "y1;");
        x.yard();
        due("behind a yard", x.seed(5), 2147483647);
        x.yard();
        due("behind an empty text", x.seed(6), 5);
        x.feed('z');
        x.yard();
        due("behind a fault", x.seed(0), 6);
    }

    private static void faultLeavesAll() {
        says("-10 less the number of its FAULT (all else is as it was)");
        String[] faults = {"z", "y8;", "y1;y", "y1;x0 0;x0 0;"};
        for (int number = 1; number <= 4; number++) {
            GrudgeYard x = worked();
            x.yard();
            List<Integer> before = picture(x);
            feedAll(x, faults[number - 1]);
            due("yard() of " + faults[number - 1], x.yard(), -10 - number);
            List<Integer> behind = picture(x);
            // The second of a picture is the letter of the fault, which is another one.
            behind.set(1, before.get(1));
            due("all else behind " + faults[number - 1], behind.equals(before));
        }
    }

    private static void faultLeavesImagesAndPast() {
        says("-10 less the number of its FAULT (all else is as it was)");
        GrudgeYard x = worked();
        feedAll(x, "y1,1;w0 1 0;w0 1 0;q");
        due("yard()", x.yard(), -11);
        due("peace is undone", x.undo(), 1);
        due("the cut is undone", x.undo(), 0);
        dueHump("undone", x, 0, 1, 2, 3, 4, 5);
        x.cut(3, 0);
        due("goBack(0)", x.goBack(0), 1);
        dueHump("gone back", x, 0, 1, 2, 3, 4, 5);
        due("goBack(1)", x.goBack(1), NOT);
    }

    private static void seedAtFirst() {
        says("THE SEED (0 at first");
        GrudgeYard x = of("y1;");
        x.drift(1);
        due("drawn from 0", x.seed(0), 12345);
    }

    private static void seedBounds() {
        says("THE SEED becomes v (0 .. 2147483647): what it was. OUTSIDE.");
        GrudgeYard x = new GrudgeYard();
        due("seed(-1)", x.seed(-1), OUTSIDE);
        due("seed(LOW)", x.seed(LOW), OUTSIDE);
        due("seed(-1000000001)", x.seed(UNKNOWN), OUTSIDE);
        due("seed(2147483647)", x.seed(2147483647), 0);
        due("seed(0)", x.seed(0), 2147483647);
        due("seed(1)", x.seed(1), 0);
        due("seed(-1)", x.seed(-1), OUTSIDE);
        due("it is 1 still", x.seed(0), 1);
    }

    private static void seedWrapsAround() {
        says("it becomes it times 1103515245 and 12345, left over by 2 to the 31");
        long[] seeds = {0, 1, 2, 12345, 65535, 65536, 1073741823, 1073741824, 2147483646, 2147483647};
        for (long seed : seeds) {
            GrudgeYard x = of("y1;");
            x.seed((int) seed);
            x.drift(1);
            long drawn = (seed * 1103515245L + 12345L) % 2147483648L;
            due("drawn from " + seed, x.seed(0), (int) drawn);
        }
    }

    private static void drawsOfRoads() {
        says("the DRAW of n is it / 65536, left over by n");
        for (int roads = 1; roads <= 4; roads++) {
            long seed = 2147483647;
            GrudgeYard x = of("y7" + ",7".repeat(roads - 1) + ";" + "w0 1 0;".repeat(7));
            x.seed((int) seed);
            for (int w = 0; w < 7; w++) {
                seed = (seed * 1103515245L + 12345L) % 2147483648L;
                x.drift(1);
                due("of " + roads + ": the road of " + w, x.wagon(w, 3), (int) (seed / 65536 % roads));
            }
        }
    }

    private static void drawsByCalls() {
        says("n times: a DRAW of ROADS");
        GrudgeYard once = of(SEVEN);
        GrudgeYard often = of(SEVEN);
        once.drift(60);
        for (int i = 0; i < 60; i++) {
            often.drift(1);
        }
        due("60 are 60 times 1", stand(once).equals(stand(often)));
        due("the same seed", once.seed(0), often.seed(0));
        due("one can be undone", once.told(11), 1);
        due("twenty can be undone", often.told(11), 20);
        GrudgeYard none = of("y1;w0 1 0;w0 1 0;");
        none.cut(1, 0);
        due("no room: nothing", none.drift(60), 1);
        due("each is drawn all the same", none.seed(0), drawn(60));
    }

    private static int drawn(int times) {
        long seed = 0;
        for (int i = 0; i < times; i++) {
            seed = (seed * 1103515245L + 12345L) % 2147483648L;
        }
        return (int) seed;
    }

    private static void imagesKeepAll() {
        says("IMAGES 0, 1 keep all of section 2, THE SEED.");
        for (int image = 0; image <= 1; image++) {
            GrudgeYard x = of(SIX);
            x.cut(3, 0);
            x.peace(0, 1);
            x.cut(1, 2);
            x.seed(31);
            List<Integer> kept = stand(x);
            due("keep(" + image + ")", x.keep(image), 1);
            x.pull(0);
            x.drift(60);
            x.seed(32);
            due("goBack(" + image + ")", x.goBack(image), 1);
            due("section 2 of image " + image, stand(x).equals(kept));
            due("the seed of image " + image, x.seed(0), 31);
        }
        GrudgeYard calm = of(SEVEN);
        calm.keep(0);
        calm.cut(2, 0);
        due("a kick", calm.told(7), 1);
        calm.goBack(0);
        dueTold("no kick yet", calm, 4, 7, 0, 0, 7, 0, 0, NONE);
        GrudgeYard none = new GrudgeYard();
        due("keep(0) without a yard", none.keep(0), 1);
        none.seed(3);
        due("goBack(0) without a yard", none.goBack(0), 1);
        due("its seed", none.seed(0), 0);
    }

    private static void imagesKeepNoMore() {
        says("What is so becomes IMAGE i");
        GrudgeYard x = of(SIX);
        x.keep(0);
        x.couple(0, 1, true);
        x.chalk(0, 0, 9);
        x.chalk(1, 0, 9);
        x.write(0, 0, 0);
        feedAll(x, "abc");
        x.goBack(0);
        dueTold("couplings, chalk, book, text stay", x, 3, 6, 4, 3, 6, 0, 0, NONE, 1, 2, 1, 0);
        due("judge()", x.judge(), 0);
        due("laws(-1)", x.laws(NONE), 1);
        due("fit(-1): road 2 has not room for six", x.fit(NONE), 0);
    }

    private static void imagesAreApart() {
        says("IMAGE i becomes what is so");
        GrudgeYard x = of(SEVEN);
        x.keep(0);
        x.cut(1, 0);
        x.keep(1);
        x.cut(1, 0);
        x.goBack(0);
        due("image 0", x.told(4), 7);
        x.goBack(1);
        due("image 1", x.told(4), 6);
        x.cut(2, 0);
        x.keep(0);
        x.goBack(1);
        due("image 1 is as it was", x.told(4), 6);
        x.goBack(0);
        due("image 0 is anew", x.told(4), 4);
    }

    private static void keepUnknown() {
        says("IMAGE i becomes what is so (nothing can be undone then): 1. UNKNOWN.");
        GrudgeYard x = of(SEVEN);
        int[] unknown = {NONE, 2, LOW, HIGH};
        for (int i : unknown) {
            due("keep(" + i + ")", x.keep(i), UNKNOWN);
            due("goBack(" + i + ")", x.goBack(i), UNKNOWN);
        }
        due("goBack(0)", x.goBack(0), NOT);
        due("goBack(1)", x.goBack(1), NOT);
    }

    private static void nothingUndoneByKeep() {
        says("IMAGE i becomes what is so (nothing can be undone then)");
        GrudgeYard x = of(SEVEN);
        x.cut(1, 0);
        x.cut(1, 1);
        due("keep(2)", x.keep(2), UNKNOWN);
        due("refused: two can be undone", x.told(11), 2);
        due("keep(1)", x.keep(1), 1);
        due("none can be undone", x.told(11), 0);
        due("undo()", x.undo(), NOT);
        due("what is so stays", x.told(4), 5);
        x.cut(1, 2);
        due("the next can be undone", x.undo(), 0);
        due("up to the image", x.told(4), 5);
        due("no further", x.undo(), NOT);
    }

    private static void nothingUndoneByGoBack() {
        says("What is so becomes IMAGE i (nothing can be undone then): 1.");
        GrudgeYard x = of(SEVEN);
        x.keep(0);
        x.cut(1, 0);
        x.cut(1, 1);
        due("goBack(1)", x.goBack(1), NOT);
        due("refused: two can be undone", x.told(11), 2);
        due("goBack(0)", x.goBack(0), 1);
        due("none can be undone", x.told(11), 0);
        due("undo()", x.undo(), NOT);
        x.cut(1, 2);
        due("the next can be undone", x.undo(), 0);
        dueHump("up to the image", x, 0, 1, 2, 3, 4, 5, 6);
    }

    private static void goBackNotKept() {
        says("UNKNOWN, NOT: it was not kept.");
        GrudgeYard x = of(SEVEN);
        due("goBack(0)", x.goBack(0), NOT);
        due("goBack(1)", x.goBack(1), NOT);
        x.keep(1);
        due("goBack(0) behind keep(1)", x.goBack(0), NOT);
        due("goBack(1) behind keep(1)", x.goBack(1), 1);
        feedAll(x, SIX);
        x.yard();
        due("goBack(1) behind yard()", x.goBack(1), NOT);
        x.keep(0);
        due("goBack(1) behind keep(0)", x.goBack(1), NOT);
        due("goBack(0) behind keep(0)", x.goBack(0), 1);
    }

    private static void imagesStay() {
        says("images to go on from");
        GrudgeYard x = of(SEVEN);
        x.cut(2, 0);
        x.keep(0);
        for (int i = 0; i < 3; i++) {
            x.peace(0, 0);
            x.cut(5, 0);
            x.pull(0);
            due("goBack(0)", x.goBack(0), 1);
            dueRoad("time " + i, x, 0, 0, 1);
            due("no peace, time " + i, x.road(0, 2), 0);
            due("cuts, time " + i, x.told(5), 1);
            x.tear();
        }
    }
}
