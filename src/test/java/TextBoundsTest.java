/** Promise 2, and what the terms say of a text: each boundary that they name, on both sides. */
public final class TextBoundsTest {
    private static final Due DUE = new Due("TextBoundsTest");
    private static final Bounds USUAL = new Bounds(DUE, TextBoundsTest::withText);
    private static final String SIXTEEN = "g;g;g;g;g;g;g;g;g;g;g;g;g;g;g;g";

    public static void main(String[] args) {
        numbers();
        faults();
        orderOfRefusals();
        cellsThatAreThere();
        everyLane();
        twelveEver();
        howManyItems();
        howManySigns();
        beginOfItem();
        signs();
        lineNumbers();
        lettersOfCuts();
        endsTooSoon();
        longest();
        DUE.end();
    }

    /** Sheet 0 has the bytes of a text and a code that is none behind it. */
    private static ShortProofs withText() {
        ShortProofs x = Bounds.usual();
        Bounds.fill(x, 0, 0, 'g', 'a', ';', 'g', 'A', 'x');
        return x;
    }

    private static ShortProofs fullWithText() {
        ShortProofs x = Bounds.full();
        Bounds.fill(x, 0, 0, 'g', 'a', ';', 'g', 'A', 'x');
        return x;
    }

    /** "UNKNOWN; OUTSIDE: lane." */
    private static void numbers() {
        USUAL.clearingRange("text of sheet", 0, 3, Bounds.UNKNOWN, (x, k) -> x.text(k, 0, 0, 2));
        USUAL.clearingRange("text by lane", 0, 2, Bounds.OUTSIDE, (x, lane) -> x.text(0, lane, 0, 2));
        USUAL.changes("text", 2, 0, x -> x.text(0, 0, 0, 5), "proofs", "3", "lines", "11", "proof 2", "ga;gA");
    }

    /** "FAULTS CAST (nothing is no CAST), NULL, SIZE: n is below 0, INDEX: not all cells are there." */
    private static void faults() {
        for (int lane = 0; lane < 3; lane++) {
            int as = lane;
            USUAL.faults("nothing as lane " + lane, Bounds.NULL, x -> x.text(3, as, 0, 0));
            for (int k = 0; k < 3; k++) {
                int sheet = k;
                if (k != lane) {
                    USUAL.faults("sheet " + k + " as lane " + lane, Bounds.CAST, x -> x.text(sheet, as, 0, 0));
                }
            }
        }
        USUAL.faults("n -1", Bounds.SIZE, x -> x.text(0, 0, 0, -1));
        USUAL.faults("n far below 0", Bounds.SIZE, x -> x.text(0, 0, 0, Bounds.LEAST));
        USUAL.clears("n 0", -100, x -> x.text(0, 0, 0, 0));
    }

    /** "REFUSALS, in the order in which a call's line tells them"; "of a call the first that is come to". */
    private static void orderOfRefusals() {
        USUAL.clears("UNKNOWN ahead of OUTSIDE", -1, x -> x.text(4, 3, -1, -1));
        USUAL.clears("OUTSIDE ahead of NULL", -2, x -> x.text(3, 3, -1, -1));
        USUAL.clears("OUTSIDE ahead of SIZE", -2, x -> x.text(0, -1, -1, -1));
        USUAL.faults("CAST ahead of SIZE", Bounds.CAST, x -> x.text(0, 1, -1, -1));
        USUAL.faults("CAST ahead of INDEX", Bounds.CAST, x -> x.text(0, 1, -1, 1));
        USUAL.faults("NULL ahead of SIZE", Bounds.NULL, x -> x.text(3, 0, -1, -1));
        USUAL.faults("NULL ahead of INDEX", Bounds.NULL, x -> x.text(3, 0, 0, 1));
        USUAL.faults("SIZE ahead of INDEX", Bounds.SIZE, x -> x.text(0, 0, -1, -1));
        USUAL.faults("SIZE ahead of INDEX", Bounds.SIZE, x -> x.text(0, 0, 7, -1));
        USUAL.faults("INDEX ahead of a wrong code", Bounds.INDEX, x -> x.text(0, 0, 5, 2));
        Bounds full = new Bounds(DUE, TextBoundsTest::fullWithText);
        full.clears("UNKNOWN ahead of FULL", -1, x -> x.text(4, 0, 0, 5));
        full.clears("OUTSIDE ahead of FULL", -2, x -> x.text(0, 3, 0, 5));
        full.faults("CAST ahead of FULL", Bounds.CAST, x -> x.text(0, 2, 0, 5));
        full.faults("NULL ahead of FULL", Bounds.NULL, x -> x.text(3, 2, 0, 5));
        full.faults("SIZE ahead of FULL", Bounds.SIZE, x -> x.text(0, 0, 0, -1));
        full.faults("INDEX ahead of FULL", Bounds.INDEX, x -> x.text(0, 0, 0, 7));
        full.clears("a wrong code ahead of FULL", -105, x -> x.text(0, 0, 0, 6));
        full.clears("FULL", -4, x -> x.text(0, 0, 0, 5));
    }

    /** "INDEX (of cells from i on also where i is not 0 .. how many there are, if none of them is taken, too)." */
    private static void cellsThatAreThere() {
        USUAL.faults("none of them from -1 on", Bounds.INDEX, x -> x.text(0, 0, -1, 0));
        USUAL.clears("none of them from 6 on", -100, x -> x.text(0, 0, 6, 0));
        USUAL.faults("none of them from 7 on", Bounds.INDEX, x -> x.text(0, 0, 7, 0));
        USUAL.faults("one from -1 on", Bounds.INDEX, x -> x.text(0, 0, -1, 1));
        USUAL.clears("the last one", -100, x -> x.text(0, 0, 5, 1));
        USUAL.faults("one from 6 on", Bounds.INDEX, x -> x.text(0, 0, 6, 1));
        USUAL.clears("all six", -105, x -> x.text(0, 0, 0, 6));
        USUAL.faults("seven", Bounds.INDEX, x -> x.text(0, 0, 0, 7));
        USUAL.clears("places are told from i on", -102, x -> x.text(0, 0, 3, 3));
        USUAL.changes("from i on", 2, 0, x -> x.text(0, 0, 3, 2), "proofs", "3", "lines", "10", "proof 2", "gA");
        for (int far : new int[] {Bounds.LEAST, Bounds.LEAST + 1, Bounds.MOST - 1, Bounds.MOST}) {
            USUAL.faults("i " + far, Bounds.INDEX, x -> x.text(0, 0, far, 0));
            USUAL.faults("i " + far, Bounds.INDEX, x -> x.text(0, 0, far, 6));
            USUAL.faults("i " + far, Bounds.INDEX, x -> x.text(0, 0, far, Bounds.MOST));
        }
        for (int i = 0; i <= 7; i++) {
            int from = i;
            USUAL.faults("n far", Bounds.INDEX, x -> x.text(0, 0, from, Bounds.MOST));
            USUAL.faults("n just behind", Bounds.INDEX, x -> x.text(0, 0, from, 7 - from + (from == 7 ? 1 : 0)));
        }
        ShortProofs x = new ShortProofs();
        x.sheet(1, 2, 0);
        DUE.is("nothing of an empty row", x.text(1, 2, 0, 0), -100);
        DUE.is("one of an empty row", x.text(1, 2, 0, 1), -13);
        DUE.is("from 1 on of an empty row", x.text(1, 2, 1, 0), -13);
    }

    /** "Taken as a row of a LANE"; "what comes to a cell of it is cut to its LANE": by bytes and shorts alone. */
    private static void everyLane() {
        for (int lane = 0; lane < 3; lane++) {
            for (int more : new int[] {0, 1 << 8, 1 << 16, 1 << 24}) {
                boolean same = more == 0 || lane == 0 || lane == 1 && more != 1 << 8;
                ShortProofs x = new ShortProofs();
                Bounds.fill(x, 2, lane, 'g' + more, 'f' + more);
                DUE.is("lane " + lane + " and " + more + " more", x.text(2, lane, 0, 2), same ? 0 : -100);
            }
        }
    }

    /** "12 ever, numbered as they come"; "FULL". */
    private static void twelveEver() {
        ShortProofs x = withText();
        for (int p = 2; p < 12; p++) {
            DUE.is("proof " + p, x.text(0, 0, 0, 2), p);
        }
        DUE.is("a 13th", x.text(0, 0, 0, 2), -4);
        DUE.is("fault()", x.fault(), 0);
        DUE.is("many(0)", x.many(0), 12);
        DUE.is("many(1)", x.many(1), 9 + 10);
        DUE.is("line of a 13th", x.line(12, 0, 0), -1);
        Bounds full = new Bounds(DUE, TextBoundsTest::fullWithText);
        full.clears("FULL changes nothing", -4, y -> y.text(0, 0, 0, 2));
    }

    private static void wrong(String text, int place) {
        ShortProofs x = new ShortProofs();
        DUE.is("text " + text, Due.read(x, text), -100 - place);
        DUE.is("fault() behind " + text, x.fault(), 0);
        DUE.is("many(0) behind " + text, x.many(0), 0);
    }

    private static void right(String text, int lines) {
        ShortProofs x = new ShortProofs();
        DUE.is("text " + text, Due.read(x, text), 0);
        DUE.is("fault() behind " + text, x.fault(), 0);
        DUE.is("lines of " + text, x.many(1), lines);
    }

    /** "1 to 16 items with ; between." */
    private static void howManyItems() {
        wrong("", 0);
        right("g", 1);
        right("g;g", 2);
        right(SIXTEEN.substring(2), 15);
        right(SIXTEEN, 16);
        wrong(SIXTEEN + ";", 31);
        wrong(SIXTEEN + ";g", 31);
        wrong(SIXTEEN.substring(2) + ";", 30);
        wrong(";g", 0);
        wrong("g;;g", 2);
        wrong("g;", 2);
        // the sixteenth may be a cut, and its signs may go on
        right("ga;gA" + SIXTEEN.substring(1, 27) + ";c0,1a", 16);
        wrong("ga;gA" + SIXTEEN.substring(1, 27) + ";c0,1a;", 37);
        right(SIXTEEN + "abCdEf", 16);
    }

    /** "g and any number of SIGNS, no LETTER twice." */
    private static void howManySigns() {
        right("g", 1);
        right("gabcdef", 1);
        right("gFEDCBA", 1);
        String signs = "abcdefABCDEF";
        for (char first : signs.toCharArray()) {
            for (char second : signs.toCharArray()) {
                String text = "g" + first + second;
                if (Character.toLowerCase(first) == Character.toLowerCase(second)) {
                    wrong(text, 2);
                } else {
                    ShortProofs x = Due.of(text);
                    DUE.is(text, x.line(0, 0, 0), Due.clause(text.substring(1)));
                }
            }
        }
        for (char seventh : signs.toCharArray()) {
            wrong("gabcdef" + seventh, 7);
            wrong("gABCDEF" + seventh, 7);
        }
        // far apart, and a letter of another line is free
        wrong("gabcdeA", 6);
        wrong("gabcdea", 6);
        right("ga;ga;gA", 3);
    }

    /** What text() answers for some codes and one more behind them. */
    private static int read(String ahead, int code) {
        ShortProofs x = new ShortProofs();
        x.sheet(0, 2, ahead.length() + 1);
        for (int i = 0; i < ahead.length(); i++) {
            x.put(0, i, ahead.charAt(i));
        }
        x.put(0, ahead.length(), code);
        return x.text(0, 2, 0, ahead.length() + 1);
    }

    /** Each code but these is wrong at its own place: all of a byte and more, and far ones. */
    private static void allButAreWrong(String ahead, String but) {
        int due = -100 - ahead.length();
        for (int code = -300; code < 600; code++) {
            if (code < 0 || but.indexOf(code) < 0) {
                DUE.is(ahead + " and the code " + code, read(ahead, code), due);
            }
        }
        for (char code : but.toCharArray()) {
            DUE.is(ahead + " and a code that wraps", read(ahead, code + (1 << 16)), due);
            DUE.is(ahead + " and a code that wraps", read(ahead, code - (1 << 8)), due);
            DUE.is(ahead + " and a code that wraps", read(ahead, code + Bounds.LEAST), due);
        }
        DUE.is(ahead + " and a far code", read(ahead, Bounds.LEAST), due);
        DUE.is(ahead + " and a far code", read(ahead, Bounds.MOST), due);
    }

    /** "Codes: g 103, c 99, .. ; 59." */
    private static void beginOfItem() {
        allButAreWrong("", "gc");
        DUE.is("g alone", read("", 103), 0);
        DUE.is("c alone", read("", 99), -101);
        allButAreWrong("ga;", "gc");
        DUE.is("g behind ;", read("ga;", 103), 0);
        DUE.is("c behind ;", read("ga;", 99), -104);
    }

    /** "The letters 0 .. 5 97 .. 102, with NOT 65 .. 70"; "behind g, c is a LETTER". */
    private static void signs() {
        allButAreWrong("g", "abcdefABCDEF;");
        for (int letter = 0; letter < 6; letter++) {
            ShortProofs x = Due.of("g" + (char) (97 + letter), "g" + (char) (65 + letter));
            DUE.is("letter " + letter, x.line(0, 0, 0), 1 << letter);
            DUE.is("letter " + letter + " with not", x.line(1, 0, 0), 64 << letter);
        }
        DUE.is("; behind g", read("g", 59), -102);
        allButAreWrong("gbD", "acefACEF;");
        DUE.is("c behind g", read("gbD", 99), 0);
        DUE.is("; behind signs", read("gbD", 59), -104);
    }

    /** "A number is read as all digits that stand there, two at most; of a LINE that is not ahead its first digit." */
    private static void lineNumbers() {
        allButAreWrong("ga;gA;c", "01");
        DUE.is("a number that may go on", read("ga;gA;c", 48), -108);
        DUE.is("a line ahead", read("ga;gA;c", 49), -108);
        allButAreWrong("ga;gA;c0", "0123456789,");
        for (int code = 48; code < 58; code++) {
            DUE.is("0 and the digit " + code, read("ga;gA;c0", code), code < 50 ? -109 : -107);
            DUE.is("1 and the digit " + code, read("ga;gA;c1", code), -107);
            DUE.is("a third digit", read("ga;gA;c00", code), -109);
            DUE.is("the right one", read("ga;gA;c0,", code), code < 50 ? -110 : -109);
            DUE.is("0 and the digit " + code, read("ga;gA;c0,0", code), code < 50 ? -111 : -109);
            DUE.is("a third digit", read("ga;gA;c0,01", code), -111);
        }
        allButAreWrong("ga;gA;c01", ",");
        DUE.is("a comma", read("ga;gA;c0", 44), -109);
        DUE.is("a comma", read("ga;gA;c01", 44), -110);
        allButAreWrong("ga;gA;c0,", "01");
        // itself and those behind are not ahead
        wrong("ga;gA;c2,1a", 7);
        wrong("ga;gA;c0,2a", 9);
        wrong("c0,0a", 1);
        String ten = "ga;gA;g;g;g;g;g;g;g;g";
        right(ten + ";c0,1a", 11);
        right(ten + ";g;c00,01a", 12);
        wrong(ten + ";c10,1a", 23);
        wrong(ten + ";c0,10a", 25);
        wrong(ten + ";c9,1a", 26);
        right("g;g;g;g;g;g;g;g;g;ga;gA;c9,10a", 12);
        right("g;g;g;g;g;g;g;g;g;gA;ga;c10,9a", 12);
        right("g;g;g;g;g;g;g;g;g;g;g;g;g;ga;gA;c13,14a", 16);
        wrong("g;g;g;g;g;g;g;g;g;g;g;g;g;ga;gA;c13,15a", 36);
        wrong("g;g;g;g;g;g;g;g;g;g;g;g;g;ga;gA;c15,14a", 33);
    }

    /** "Of a LETTER by which these two LINES make no CUT (of two equal numbers, too) that letter." */
    private static void lettersOfCuts() {
        allButAreWrong("ga;gA;c0,1", "a0123456789");
        for (int code = 48; code < 58; code++) {
            DUE.is("1 and the digit " + code, read("ga;gA;c0,1", code), -109);
        }
        allButAreWrong("ga;gA;c0,01", "a");
        allButAreWrong("ga;gA;c0,1a", ";");
        for (int letter = 'a'; letter <= 'f'; letter++) {
            wrong("ga;gA;c0,0" + (char) letter, 10);
            wrong("ga;gA;c1,1" + (char) letter, 10);
            wrong("ga;gA;c1,0" + (char) letter, 10);
            wrong("ga;gA;c00,00" + (char) letter, 12);
            wrong("g;c0,0" + (char) letter, 6);
            String small = String.valueOf((char) letter);
            right("g" + small + ";g" + small.toUpperCase() + ";c0,1" + small, 3);
            wrong("g" + small + ";g" + small.toUpperCase() + ";c0,1" + small.toUpperCase(), 10);
        }
        // all other signs of both are to be a clause
        wrong("gab;gAB;c0,1a", 12);
        wrong("gabF;gAf;c0,1a", 13);
        right("gabF;gAbF;c0,1a", 3);
        wrong("ga;gb;c0,1a", 10);
        wrong("gB;gA;c0,1a", 10);
    }

    /** "How many codes there are, if it just ends too soon": each beginning of a text that is none itself. */
    private static void endsTooSoon() {
        String text = "gab;gA;c0,01a;gB;c2,3b";
        for (int n = 0; n <= text.length(); n++) {
            // in this text c begins cuts alone, and all other letters may end a text
            boolean whole = n > 0 && Character.isLetter(text.charAt(n - 1)) && text.charAt(n - 1) != 'c';
            ShortProofs x = new ShortProofs();
            DUE.is(text.substring(0, n), Due.read(x, text.substring(0, n)), whole ? 0 : -100 - n);
        }
        // behind c a wrong code is told at its place, not at the end
        wrong("ga;c", 4);
        wrong("ga;c0", 5);
        wrong("ga;c1", 4);
        wrong("ga;c0,", 6);
        wrong("ga;c0,0", 7);
        wrong("ga;c0,1", 6);
    }

    /** "A row of 0 .. 60 numbers": a text of all of them, and one of the last alone. */
    private static void longest() {
        String text = "gabcdef;gABCDEF;gabcdef;gABCDEF;gabcdef;gABCDEF;gabcdef;gABC";
        ShortProofs x = new ShortProofs();
        DUE.is("sixty codes", text.length(), 60);
        DUE.is("sixty codes", Due.read(x, text), 0);
        DUE.same("sixty codes", Due.told(x, 0), text);
        x.put(3, 59, 'A');
        DUE.is("the last is wrong", x.text(3, 2, 0, 60), -159);
        x.put(3, 59, 'g');
        DUE.is("the last alone", x.text(3, 2, 59, 1), 1);
        DUE.is("none behind the last", x.text(3, 2, 60, 0), -100);
        DUE.is("one behind the last", x.text(3, 2, 60, 1), -13);
        DUE.is("sixty from 1 on", x.text(3, 2, 1, 60), -13);
        DUE.is("none from 61 on", x.text(3, 2, 61, 0), -13);
        x.put(3, 59, ';');
        DUE.is("it ends too soon", x.text(3, 2, 0, 60), -160);
    }
}
