/**
 * The document's section 1 and promises 1 to 4, sentence by sentence: each that names a bound, a
 * fault or a refusal has a test of its own, which begins with its words.
 */
public final class TextBoundsTest extends YardTest {
    private static final String WAGON = "w0 1 0;";

    public static void main(String[] args) {
        newObject();
        lettersOfTheText();
        roadsAndRoom();
        yFirstAndOnce();
        sevenWagons();
        humpInOrder();
        kinds();
        weights();
        rusts();
        tenGrudges();
        kindsOfGrudges();
        grudgesOnce();
        trainOfWagonsToldAhead();
        trainInOrder();
        trainOnce();
        figures();
        wordsOfOneLetter();
        blanksAnywhere();
        noBlanksWithinNumbers();
        numbersSideBySide();
        firstFault();
        faultAtTheEnd();
        leastFault();
        lettersThatAreNoWord();
        anotherWordFirst();
        fifthRoad();
        numberFaults();
        wagonsNotToldYet();
        oneTooMany();
        twiceTold();
        emptyText();
        feedBounds();
        textIsEmptyThen();
        endOfALaterText();
        nothingOfEarlierTexts();
        faultOfTheLatest();
        end("the text's bounds hold");
    }

    private static String times(int n, String text) {
        return text.repeat(n);
    }

    /** A text without a fault: how many wagons it has, and no letter of a fault. */
    private static GrudgeYard dueYard(String text, int roads, int wagons) {
        GrudgeYard x = new GrudgeYard();
        feedAll(x, text);
        due("yard() of " + text, x.yard(), wagons);
        due("fault() of " + text, x.fault(), NONE);
        due("roads of " + text, x.told(0), roads);
        return x;
    }

    private static void newObject() {
        says("`GrudgeYard()`: No ROADS.");
        GrudgeYard x = new GrudgeYard();
        dueTold("new", x, 0, 0, 0, 0, 0, 0, 0, NONE, 0, 0, 0, 0);
        due("road(0, 0)", x.road(0, 0), UNKNOWN);
        due("wagon(0, 0)", x.wagon(0, 0), UNKNOWN);
        due("at(-1, 0)", x.at(NONE, 0), NONE);
        due("fault()", x.fault(), NONE);
        for (int pair = 0; pair < 25; pair++) {
            due("enemies(" + pair / 5 + ", " + pair % 5 + ")", x.enemies(pair / 5, pair % 5), 0);
        }
        due("seed(0)", x.seed(0), 0);
        due("undo()", x.undo(), NOT);
        due("goBack(0)", x.goBack(0), NOT);
        due("goBack(1)", x.goBack(1), NOT);
    }

    private static void lettersOfTheText() {
        says("a text (230 letters at most)");
        String longest = "y7;" + times(220, " ") + WAGON;
        GrudgeYard x = new GrudgeYard();
        feedAll(x, longest);
        due("letters", x.told(3), 230);
        due("a letter more", x.feed('z'), FULL);
        due("letters behind it", x.told(3), 230);
        due("yard() of 230 letters", x.yard(), 1);
        dueFault(longest.substring(0, 229) + " ", 1, 230);
        dueFault(longest.substring(0, 229) + "z", 1, 229);
        feedAll(x, longest);
        due("letters of another text", x.told(3), 230);
    }

    private static void roadsAndRoom() {
        says("1 to 4 ROADS with room for M WAGONS, 1 .. 7 each");
        String text = "y";
        for (int roads = 1; roads <= 4; roads++) {
            text += roads == 1 ? "" : ",";
            dueFault(text + "0;", 2, text.length());
            dueFault(text + "8;", 2, text.length());
            dueFault(text + ";", 1, text.length());
            for (int room = 1; room <= 7; room++) {
                GrudgeYard x = dueYard(text + room + ";", roads, 0);
                due("room of " + text + room, x.road(roads - 1, 0), room);
                due("a road more than " + text + room, x.road(roads, 0), UNKNOWN);
            }
            text += "7";
        }
    }

    private static void yFirstAndOnce() {
        says("first, once");
        dueYard("y1;", 1, 0);
        dueFault(WAGON + "y1;", 1, 0);
        dueFault("x0 1;y1;", 1, 0);
        dueFault("y1;y1;", 3, 3);
        dueFault("y1;" + WAGON + "y2;", 3, 10);
        dueFault("y1;x0 1; y", 3, 9);
    }

    private static void sevenWagons() {
        says("7 WAGONS at most");
        for (int wagons = 0; wagons <= 7; wagons++) {
            GrudgeYard x = dueYard("y1;" + times(wagons, WAGON), 1, wagons);
            due("the last of " + wagons, x.wagon(wagons - 1, 0), wagons == 0 ? UNKNOWN : 0);
            due("one more than " + wagons, x.wagon(wagons, 0), UNKNOWN);
        }
        dueFault("y1;" + times(8, WAGON), 3, 52);
    }

    private static void humpInOrder() {
        says("on the HUMP one behind the other, the first told at its head");
        GrudgeYard x = of("y1;w0 1 0;w1 2 0;w2 3 0;w3 4 0;w4 5 0;w0 6 0;w1 7 0;");
        dueHump("as told", x, 0, 1, 2, 3, 4, 5, 6);
        for (int w = 0; w < 7; w++) {
            due("weight of wagon " + w, x.wagon(w, 1), w + 1);
            due("place of wagon " + w, x.wagon(w, 4), w);
        }
        dueHump("an x and a t between", of("y1;w0 1 0;x0 0;w0 1 0;t1;w0 1 0;"), 0, 1, 2);
    }

    private static void kinds() {
        says("KIND K 0 .. 4");
        for (int kind = 0; kind <= 4; kind++) {
            due("kind " + kind, of("y1;w" + kind + " 1 0;").wagon(0, 0), kind);
        }
        dueFault("y1;w5 1 0;", 2, 4);
        dueFault("y1;w-1 1 0;", 1, 4);
        dueFault("y1;w999 1 0;", 2, 4);
    }

    private static void weights() {
        says("WEIGHT G 1 .. 30");
        for (int weight = 1; weight <= 30; weight++) {
            due("weight " + weight, of("y1;w0 " + weight + " 0;").wagon(0, 1), weight);
        }
        dueFault("y1;w0 0 0;", 2, 6);
        dueFault("y1;w0 31 0;", 2, 6);
        dueFault("y1;w0 999 0;", 2, 6);
    }

    private static void rusts() {
        says("RUST R 0 .. 20");
        for (int rust = 0; rust <= 20; rust++) {
            due("rust " + rust, of("y1;w0 1 " + rust + ";").wagon(0, 2), rust);
        }
        dueFault("y1;w0 1 21;", 2, 8);
        dueFault("y1;w0 1 999;", 2, 8);
    }

    /** So many clauses 'x', each of other two kinds. */
    private static String grudges(int n) {
        StringBuilder text = new StringBuilder();
        for (int i = 0; i < n; i++) {
            text.append("x").append(i / 5).append(" ").append(i % 5).append(";");
        }
        return text.toString();
    }

    private static void tenGrudges() {
        says("10 at most");
        GrudgeYard x = dueYard("y1;" + grudges(10), 1, 0);
        due("the tenth but one", x.enemies(1, 3), 1);
        due("none that was not told", x.enemies(2, 0), 0);
        GrudgeYard last = dueYard("y1;" + grudges(9) + "x3 3;", 1, 0);
        due("the tenth", last.enemies(3, 3), 1);
        dueFault("y1;" + grudges(11), 3, 53);
        dueFault("y1;" + grudges(10) + " x", 3, 54);
    }

    private static void kindsOfGrudges() {
        says("KIND A will not stand right ahead of KIND B, deeper in a ROAD");
        for (int a = 0; a <= 4; a++) {
            for (int b = 0; b <= 4; b++) {
                GrudgeYard x = dueYard("y1;x" + a + " " + b + ";", 1, 0);
                due("enemies(" + a + ", " + b + ")", x.enemies(a, b), a < 4 && b < 4 ? 1 : 0);
                due("enemies(" + b + ", " + a + ")", x.enemies(b, a), a == b && a < 4 ? 1 : 0);
            }
        }
        dueFault("y1;x5 0;", 2, 4);
        dueFault("y1;x0 5;", 2, 6);
        dueFault("y1;x4 999;", 2, 6);
    }

    private static void grudgesOnce() {
        says("each two once");
        dueYard("y1;x0 1;x1 0;x0 0;x1 1;", 1, 0);
        dueYard("y1;x0 4;x4 0;x4 4;", 1, 0);
        dueFault("y1;x0 1;x1 0;x0 1;", 4, 16);
        dueFault("y1;x4 4;x4 4;", 4, 11);
    }

    private static void trainOfWagonsToldAhead() {
        says("the TRAIN wanted: unlike WAGONS told ahead");
        String seven = "y1;" + times(7, WAGON);
        due("a train of one", dueYard(seven + "t6;", 1, 7).told(2), 1);
        due("a train of seven", dueYard(seven + "t6,0,5,1,4,2,3;", 1, 7).told(2), 7);
        due("no train", dueYard(seven, 1, 7).told(2), 0);
        dueFault(seven + "t7;", 2, 53);
        dueFault(seven + "t6,6;", 4, 55);
        dueFault(seven + "t6,0,5,1,4,2,3,6;", 4, 67);
        dueFault(seven + "t6,0,5,1,4,2,3,7;", 2, 67);
    }

    private static void trainInOrder() {
        says("as they are to be drawn, the first first");
        due("the last in is the first drawn", of("y1;w0 1 0;w0 1 0;t1,0;").leastRoads(NONE), 1);
        due("the first in is the first drawn", of("y1;w0 1 0;w0 1 0;t0,1;").leastRoads(NONE), 2);
    }

    private static void trainOnce() {
        says("as they are to be drawn, the first first; once");
        dueFault("y1;w0 1 0;w0 1 0;t0;t1;", 3, 20);
        dueFault("y1;w0 1 0;t0;w0 1 0;t1;", 3, 20);
    }

    private static void figures() {
        says("NUMBERS have one to three figures");
        due("one figure", of("y7;").road(0, 0), 7);
        due("two figures", of("y07;").road(0, 0), 7);
        due("three figures", of("y007;").road(0, 0), 7);
        dueFault("y0007;", 2, 1);
        due("three in a wagon", of("y1;w004 030 020;").wagon(0, 5), 50);
        due("three in a grudge", of("y1;x000 003;").enemies(0, 3), 1);
        due("three in a train", of("y1;w0 1 0;t000;").told(2), 1);
        dueFault("y1;w0004 1 0;", 2, 4);
        dueFault("y1;w0 0001 0;", 2, 6);
        dueFault("y1;w0 1 0000;", 2, 8);
        dueFault("y1;x0000 1;", 2, 4);
        dueFault("y1;x0 0001;", 2, 6);
        dueFault("y1;w0 1 0;t0000;", 2, 11);
    }

    private static void wordsOfOneLetter() {
        says("a word is one letter");
        dueFault("yy1;", 1, 1);
        dueFault("yard1;", 1, 1);
        dueFault("y1;ww0 1 0;", 1, 4);
        dueFault("y1;xx0 1;", 1, 4);
        dueFault("y1;w0 1 0;tt0;", 1, 11);
        dueFault("Y1;", 1, 0);
        dueFault("y1;W0 1 0;", 1, 3);
    }

    private static void blanksAnywhere() {
        says("blanks (32) may stand anywhere");
        GrudgeYard x = dueYard("  y  3  ,  2  ;  w  0  10  2  ;  x  0  1  ;  t  0  ;  ", 2, 1);
        due("room", x.road(1, 0), 2);
        due("speed", x.wagon(0, 5), 66);
        due("grudge", x.enemies(0, 1), 1);
        due("train", x.told(2), 1);
        GrudgeYard bare = dueYard("y3,2;w0 10 2;x0 1;t0;", 2, 1);
        due("no blank but where one is needed", bare.wagon(0, 5), 66);
        int[] others = {0, 9, 10, 11, 12, 13, 31, 33, 95, 160};
        for (int other : others) {
            dueFault((char) other + "y1;", 1, 0);
            dueFault("y" + (char) other + "1;", 1, 1);
            dueFault("y1" + (char) other + ";", 1, 2);
            dueFault("y1;" + (char) other, 1, 3);
        }
    }

    private static void noBlanksWithinNumbers() {
        says("anywhere but within NUMBERS");
        dueFault("y0 7;", 2, 1);
        dueFault("y1 7;", 1, 3);
        dueFault("y1;w0 3 0 0;", 1, 10);
        dueFault("y1;w0 1 2 0;", 1, 10);
        dueFault("y1;x0 0 1;", 1, 8);
        dueFault("y1;w0 1 0;t0 0;", 1, 13);
    }

    private static void numbersSideBySide() {
        says("two NUMBERS side by side need one");
        dueFault("y1;x01;", 1, 6);
        dueFault("y1;w01 1;", 1, 8);
        dueFault("y1;w0 10;", 1, 8);
        dueFault("y1;w0100;", 2, 4);
        dueYard("y1;x0 1;", 1, 0);
        dueYard("y1;x0     1;", 1, 0);
    }

    private static void firstFault() {
        says("FAULTS, at the first letter that has one");
        dueFault("y8;z", 2, 1);
        dueFault("y8,0,z", 2, 1);
        dueFault("y1;y;z", 3, 3);
        dueFault("y1;x0 0;x0 0;y8", 4, 11);
        dueFault("y1;x0 0;x0 0z", 4, 11);
        dueFault("y1;x5 5;x5 5;", 2, 4);
        dueFault("y1;w5 0 21;", 2, 4);
        dueFault("y1;w0 0 21;", 2, 6);
        dueFault("y1;w0 1 0;t0,0,9z", 4, 13);
        dueFault("y1;w0 1 0;t0,9,0z", 2, 13);
        dueFault("y1z;y8;", 1, 2);
        dueFault("y1;" + grudges(10) + "x0 0;", 3, 53);
        dueFault("y1;" + times(7, WAGON) + "w9 9 9;", 3, 52);
    }

    private static void faultAtTheEnd() {
        says("(the end at the text's length)");
        String text = "y3,2;w4 10 20;x0 1;x1 0;t0;";
        for (int length = 1; length <= text.length(); length++) {
            String start = text.substring(0, length);
            if (start.endsWith(";")) {
                dueYard(start, 2, start.indexOf('w') < 0 ? 0 : 1);
                dueYard(start + "  ", 2, start.indexOf('w') < 0 ? 0 : 1);
            } else {
                dueFault(start, 1, length);
                dueFault(start + "  ", 1, length + 2);
            }
        }
    }

    /** Letters that have two faults at once. */
    private static void leastFault() {
        says("of these the least");
        dueFault("y1 y", 1, 3);
        dueFault("y1,y", 1, 3);
        dueFault("y1;w y", 1, 5);
        dueFault("y1;w0 1 0;t0 t", 1, 13);
        dueFault("y1;w0 1 0;t0,t", 1, 13);
        dueFault("y1;" + times(6, WAGON) + "w0 1 0 w", 1, 52);
        dueFault("y1;" + times(7, WAGON) + "x0 w", 1, 55);
        dueFault("y1;" + grudges(10) + "w x", 1, 55);
        dueFault("y1 9999;", 1, 3);
        dueFault("y1;9999", 1, 3);
        dueFault("y1;w0 1 0 9999;", 1, 10);
        dueFault("y1;x0 0;x0 0000;", 2, 11);
        dueFault("y1;w0 1 0;t0,0000;", 2, 13);
    }

    private static void lettersThatAreNoWord() {
        says("1 it cannot stand there (a letter that is no word");
        for (int letter = 0; letter <= 255; letter++) {
            String text = "y1;" + (char) letter;
            switch (letter) {
                case ' ': dueYard(text, 1, 0); break;
                case 'y': dueFault(text, 3, 3); break;
                case 'w':
                case 'x':
                case 't': dueFault(text, 1, 4); break;
                default: dueFault(text, 1, 3); break;
            }
        }
        dueFault("y1;;", 1, 3);
        dueFault("y1,;", 1, 3);
        dueFault("y1;w,0 1 0;", 1, 4);
        dueFault("y1;w0 1 0,", 1, 9);
        dueFault("y1;x0 1,", 1, 7);
        dueFault("y1;t;", 1, 4);
    }

    private static void anotherWordFirst() {
        says("another word first than 'y'");
        for (int letter = 0; letter <= 255; letter++) {
            String text = (char) letter + "1;";
            if (letter == 'y') {
                dueYard(text, 1, 0);
            } else {
                dueFault(text, 1, letter == ' ' ? 1 : 0);
            }
        }
        dueFault("   t0;", 1, 3);
    }

    private static void fifthRoad() {
        says("a fifth M: at its ','");
        dueYard("y1,2,3,4;", 4, 0);
        dueFault("y1,2,3,4,5;", 1, 8);
        dueFault("y1,2,3,4,9;", 1, 8);
        dueFault("y1,2,3,4  ,", 1, 10);
    }

    private static void numberFaults() {
        says("2 a NUMBER of four figures or more, or out of its bounds");
        dueFault("y1000;", 2, 1);
        dueFault("y0000;", 2, 1);
        dueFault("y1,  0001;", 2, 5);
        dueFault("y" + times(229, "7"), 2, 1);
        dueFault("y" + times(229, "0"), 2, 1);
        dueFault("y1;w0 1 4294967296;", 2, 8);
        dueFault("y1;w0 4294967297 0;", 2, 6);
        dueFault("y1;w0 1 0;t0,4294967296;", 2, 13);
    }

    private static void wagonsNotToldYet() {
        says("a WAGON that was not told yet (at its first)");
        dueFault("y1;t0;", 2, 4);
        dueFault("y1;t0;" + WAGON, 2, 4);
        dueFault("y1;" + WAGON + "t0,1;" + WAGON, 2, 13);
        dueFault("y1;" + WAGON + "t 010;", 2, 12);
        due("told ahead", of("y1;" + WAGON + WAGON + "t1;" + WAGON).told(2), 1);
    }

    private static void oneTooMany() {
        says("3 'y', 't' again, an eighth 'w', an eleventh 'x' (at it)");
        dueFault("y1; y", 3, 4);
        dueFault("y1;" + WAGON + "t0; t", 3, 14);
        dueFault("y1;" + times(7, WAGON) + " w", 3, 53);
        dueFault("y1;" + times(7, WAGON) + "x0 0;t0;w", 3, 60);
        dueFault("y1;" + grudges(10) + "x", 3, 53);
        dueFault("y1;" + grudges(10) + WAGON + "x4 4;", 3, 60);
    }

    private static void twiceTold() {
        says("4 'x' of both again (at the B); a WAGON twice in the TRAIN (at it)");
        dueFault("y1;x0 1;x0  1;", 4, 12);
        dueFault("y1;x0 1;x000 001;", 4, 13);
        dueFault("y1;x0 1;x1 1;x0 0;x0 1", 4, 21);
        dueFault("y1;" + WAGON + WAGON + "t1,0, 1;", 4, 23);
        dueFault("y1;" + WAGON + WAGON + "t1,001", 4, 20);
    }

    private static void emptyText() {
        says("An empty text: no ROADS.");
        GrudgeYard x = dueYard("", 0, 0);
        dueTold("an empty text", x, 0, 0, 0, 0, 0, 0, 0, NONE, 0, 0, 0, 0);
        GrudgeYard again = of(SIX);
        again.cut(1, 0);
        due("yard() of no letter", again.yard(), 0);
        dueTold("no letter behind a yard", again, 0, 0, 0, 0, 0, 0, 0, NONE, 0, 0, 0, 0);
        due("its road", again.road(0, 0), UNKNOWN);
        due("its wagon", again.wagon(0, 0), UNKNOWN);
        due("its grudge", again.enemies(0, 1), 0);
        dueHump("its hump", again);
        dueYard("   ", 0, 0);
    }

    private static void feedBounds() {
        says("One letter (a number 0 .. 255) comes behind THE TEXT: how many it has. OUTSIDE, FULL (230).");
        GrudgeYard x = new GrudgeYard();
        int[] outside = {-1, 256, 300, LOW, HIGH};
        for (int letter : outside) {
            due("feed(" + letter + ")", x.feed(letter), OUTSIDE);
        }
        due("no letter came", x.told(3), 0);
        for (int i = 0; i < 230; i++) {
            due("feed " + i, x.feed(i % 2 == 0 ? 0 : 255), i + 1);
        }
        due("feed of a full text", x.feed(0), FULL);
        due("feed of a full text again", x.feed(255), FULL);
        due("OUTSIDE is ahead of FULL", x.feed(256), OUTSIDE);
        due("letters", x.told(3), 230);
    }

    private static void textIsEmptyThen() {
        says("THE TEXT (it is empty then, with a FAULT, too) becomes THE YARD");
        GrudgeYard x = new GrudgeYard();
        feedAll(x, "y1;z");
        due("yard() of a fault", x.yard(), -11);
        due("letters behind a fault", x.told(3), 0);
        due("the next letter is the first", x.feed('y'), 1);
        feedAll(x, "2;");
        due("yard() of the next text", x.yard(), 0);
        due("letters behind a yard", x.told(3), 0);
        due("its road", x.road(0, 0), 2);
        due("the next letter is the first", x.feed('y'), 1);
        due("-10 less the number of its FAULT", x.yard(), -11);
        due("the road stays", x.road(0, 0), 2);
    }

    private static void endOfALaterText() {
        says("THE TEXT (it is empty then, with a FAULT, too) becomes THE YARD");
        String text = "y3,2;w4 10 20;x0 1;t0;";
        for (int length = 1; length < text.length(); length++) {
            GrudgeYard x = of(text);
            feedAll(x, text.substring(0, length));
            boolean whole = text.charAt(length - 1) == ';';
            due("yard() of a start", x.yard(), !whole ? -11 : text.substring(0, length).indexOf('w') < 0 ? 0 : 1);
            due("fault() of a start", x.fault(), whole ? NONE : length);
        }
    }

    private static void nothingOfEarlierTexts() {
        says("THE TEXT (it is empty then, with a FAULT, too) becomes THE YARD");
        String whole = "y1;w0 1 0;w0 1 0;x0 0;t1,0;";
        String[] earlier = {whole, whole + "z", "y1,1,1,1;" + WAGON + "x0 0;t0;t"};
        for (String text : earlier) {
            GrudgeYard x = of(whole);
            for (int i = 0; i < 3; i++) {
                feedAll(x, text);
                x.yard();
                feedAll(x, whole);
                due("yard() behind " + text, x.yard(), 2);
                dueTold("told again behind " + text, x, 1, 2, 2, 0, 2, 0, 0, NONE);
            }
            feedAll(x, "y2;");
            due("roads alone behind " + text, x.yard(), 0);
            dueTold("roads alone behind " + text, x, 1, 0, 0, 0, 0, 0, 0, NONE);
            due("no grudge behind " + text, x.enemies(0, 0), 0);
            feedAll(x, text);
            x.yard();
            due("yard() of no letter behind " + text, x.yard(), 0);
            dueTold("no letter behind " + text, x, 0, 0, 0, 0, 0, 0, 0, NONE);
            due("no grudge, no letter behind " + text, x.enemies(0, 0), 0);
        }
    }

    private static void faultOfTheLatest() {
        says("The letter of the FAULT of the latest yard(); NONE.");
        GrudgeYard x = new GrudgeYard();
        due("none yet", x.fault(), NONE);
        x.feed('z');
        due("none by a letter", x.fault(), NONE);
        x.yard();
        due("at the first letter", x.fault(), 0);
        feedAll(x, "y1;q");
        due("until the next yard()", x.fault(), 0);
        x.yard();
        due("at the fourth", x.fault(), 3);
        x.yard();
        due("an empty text has none", x.fault(), NONE);
        feedAll(x, "y8;");
        x.yard();
        due("at the second", x.fault(), 1);
        feedAll(x, "y7;");
        x.yard();
        due("a yard has none", x.fault(), NONE);
    }
}
