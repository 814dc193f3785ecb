import java.util.ArrayList;
import java.util.List;

/** What the tests share: yards told by a text, and answers held against what is due. */
abstract class YardTest {
    static final int NONE = GrudgeYard.NONE;
    static final int UNKNOWN = GrudgeYard.UNKNOWN;
    static final int OUTSIDE = GrudgeYard.OUTSIDE;
    static final int NOT = GrudgeYard.NOT;
    static final int FULL = GrudgeYard.FULL;
    static final int LOW = Integer.MIN_VALUE;
    static final int HIGH = Integer.MAX_VALUE;

    /** Kinds 0 1 0 4 2 1; speeds 70 70 50 61 59 51; the train leaves out wagons 2 and 3. */
    static final String SIX =
        "y3,2,4;w0 10 0;w1 20 5;w0 30 20;w4 1 0;w2 5 3;w1 9 9;x0 1;x1 0;x2 1;x0 4;t5,1,0,4;";
    /** Seven wagons of kind 0 that all kick one another, in four long roads. */
    static final String SEVEN =
        "y7,7,7,7;w0 1 0;w0 1 0;w0 1 0;w0 1 0;w0 1 0;w0 1 0;w0 1 0;x0 0;";

    private static String sentence = "";
    private static int wrong = 0;

    /** The document's words that the checks behind it belong to: a failure names them. */
    static void says(String words) {
        sentence = words;
    }

    static void due(String call, int got, int want) {
        if (got != want) {
            wrong++;
            System.out.println((sentence.isEmpty() ? "" : "\"" + sentence + "\": ")
                + call + " answered " + got + ", due is " + want);
        }
    }

    static void due(String what, boolean holds) {
        due(what, holds ? 1 : 0, 1);
    }

    /** Ends the test: with exit code 1, if an answer was wrong. */
    static void end(String allIsWell) {
        System.out.println(wrong == 0 ? allIsWell : wrong + " answers are not as due");
        if (wrong != 0) {
            System.exit(1);
        }
    }

    static void feedAll(GrudgeYard x, String text) {
        for (int i = 0; i < text.length(); i++) {
            x.feed(text.charAt(i));
        }
    }

    static GrudgeYard of(String text) {
        GrudgeYard x = new GrudgeYard();
        feedAll(x, text);
        int answer = x.yard();
        if (answer < 0) {
            due("yard() of " + text, answer, 0);
        }
        return x;
    }

    static void dueFault(String text, int number, int letter) {
        GrudgeYard x = new GrudgeYard();
        feedAll(x, text);
        due("yard() of " + text, x.yard(), -10 - number);
        due("fault() of " + text, x.fault(), letter);
    }

    static void dueHump(String when, GrudgeYard x, int... wagons) {
        dueLine(when, x, NONE, wagons);
        due(when + ": told(4)", x.told(4), wagons.length);
    }

    static void dueRoad(String when, GrudgeYard x, int r, int... wagons) {
        dueLine(when, x, r, wagons);
        due(when + ": road(" + r + ", 1)", x.road(r, 1), wagons.length);
    }

    private static void dueLine(String when, GrudgeYard x, int r, int... wagons) {
        for (int i = 0; i < wagons.length; i++) {
            due(when + ": at(" + r + ", " + i + ")", x.at(r, i), wagons[i]);
        }
        due(when + ": behind the last of " + r, x.at(r, wagons.length), NONE);
    }

    /** The answers to told(0), told(1) and on. */
    static void dueTold(String when, GrudgeYard x, int... want) {
        for (int what = 0; what < want.length; what++) {
            due(when + ": told(" + what + ")", x.told(what), want[what]);
        }
    }

    /** All that can be asked without a change, and the seed: some 190 calls. */
    static List<Integer> picture(GrudgeYard x) {
        List<Integer> answers = new ArrayList<>();
        int seed = x.seed(0);
        x.seed(seed);
        answers.add(seed);
        answers.add(x.fault());
        answers.add(x.next());
        answers.add(x.judge());
        for (int what = 0; what <= 11; what++) {
            answers.add(x.told(what));
        }
        for (int i = NONE; i <= 16; i++) {
            answers.add(x.laws(i));
        }
        for (int i = -2; i < 7; i++) {
            answers.add(x.plan(i));
            answers.add(x.leastRoads(i));
            answers.add(x.fit(i));
            answers.add(x.foremen(i + 1));
        }
        addPlaces(x, answers);
        return answers;
    }

    private static void addPlaces(GrudgeYard x, List<Integer> answers) {
        answers.addAll(stand(x));
        for (int r = NONE; r < 4; r++) {
            answers.add(x.fewest(r));
            answers.add(x.road(r, 0));
            answers.add(x.road(r, 1));
        }
        for (int w = 0; w < 7; w++) {
            for (int what = 0; what < 6; what++) {
                answers.add(x.wagon(w, what));
            }
        }
        for (int a = 0; a < 5; a++) {
            for (int b = 0; b < 5; b++) {
                answers.add(x.enemies(a, b));
            }
        }
    }

    /** All of section 2: who stands where, peace, cuts, kicks, the first kick; some 40 calls. */
    static List<Integer> stand(GrudgeYard x) {
        List<Integer> answers = new ArrayList<>();
        for (int r = NONE; r < 4; r++) {
            answers.add(x.road(r, 2));
            for (int i = 0; i < 7; i++) {
                answers.add(x.at(r, i));
            }
        }
        for (int what = 5; what <= 7; what++) {
            answers.add(x.told(what));
        }
        return answers;
    }
}
