/** Promises 1 to 7: a new object, text, line, size, rests, truly, fewest. */
public final class ProofsTest {
    private static final Due DUE = new Due("ProofsTest");
    private static final String SQUARE = "gab;gaB;gAc;gAC;c0,1b;c2,3c;c4,5a";
    private static final String SIXTEEN = "g;g;g;g;g;g;g;g;g;g;g;g;g;g;g;g";

    public static void main(String[] args) {
        newObject();
        rightTexts();
        wrongTexts();
        placesOfTexts();
        faultsOfTexts();
        fullOfTexts();
        lines();
        sizes();
        rests();
        fewest();
        DUE.end();
    }

    private static void newObject() {
        ShortProofs x = new ShortProofs();
        DUE.is("many(0)", x.many(0), 0);
        DUE.is("many(1)", x.many(1), 0);
        DUE.is("trace()", x.trace(), 0);
        DUE.is("fault()", x.fault(), 0);
        for (int k = 0; k < 4; k++) {
            DUE.is("lose", x.lose(k), 0);
        }
        DUE.is("rests(0)", x.rests(0), ShortProofs.UNKNOWN);
        DUE.is("LOST", ShortProofs.LOST, Long.MIN_VALUE);
    }

    private static void rightTexts() {
        String[] right = {
            "g", "ga", "gF", "gc", "gC", "gabcdef", "gfEdCbA", SIXTEEN, SQUARE,
            "ga;gA;c0,1a", "ga;gA;c00,01a", "g;gabcdef;gBf;c1,2b",
            "g;g;g;g;g;g;g;g;g;ga;gA;c9,10a", "gab;gAb;c0,1a;gB;c2,3b",
        };
        for (int k = 0; k < right.length; k++) {
            DUE.is(right[k], Due.read(new ShortProofs(), right[k]), 0);
        }
        ShortProofs x = Due.of("gfEdCbA");
        DUE.is("clause", x.line(0, 0, 0), 1 * 64 + 2 + 4 * 64 + 8 + 16 * 64 + 32);
        DUE.same("two digits", Due.told(Due.of("g;g;g;g;g;g;g;g;g;ga;gA;c09,10a"), 0),
            "g;g;g;g;g;g;g;g;g;ga;gA;c9,10a");
    }

    private static void wrong(String text, int place) {
        ShortProofs x = new ShortProofs();
        DUE.is("text " + text, Due.read(x, text), -100 - place);
        DUE.is("many(0) behind " + text, x.many(0), 0);
        DUE.is("fault() behind " + text, x.fault(), 0);
    }

    private static void wrongTexts() {
        wrong("", 0);
        wrong(";", 0);
        wrong("x", 0);
        wrong("a", 0);
        wrong("g;", 2);
        wrong("g;;", 2);
        wrong("g ", 1);
        wrong("gaa", 2);
        wrong("gaA", 2);
        wrong("gAa", 2);
        wrong("gabcdefa", 7);
        wrong("gg", 1);
        wrong("gG", 1);
        wrong("g`", 1);
        wrong("g@", 1);
        wrong("ga,", 2);
        wrong("c", 1);
        wrong("cx", 1);
        wrong("c0", 1);
        wrong("c0,0a", 1);
        wrong("ga;x", 3);
        wrong("ga;c", 4);
        wrong("ga;c,", 4);
        wrong("ga;c0", 5);
        wrong("ga;c0,", 6);
        wrong("ga;c0,,", 6);
        wrong("ga;c0,0", 7);
        wrong("ga;c0,0a", 7);
        wrong("ga;c1,0a", 4);
    }

    private static void placesOfTexts() {
        wrong("ga;gA;c0,1", 10);
        wrong("ga;gA;c0,1;", 10);
        wrong("ga;gA;c0,1a;", 12);
        wrong("ga;gA;c0,1aa", 11);
        wrong("ga;gA;c0,1g", 10);
        wrong("ga;gA;c000,1a", 9);
        wrong("ga;gA;c0,001a", 11);
        wrong("ga;gA;c12,0a", 7);
        wrong("ga;gA;c02,0a", 7);
        wrong("ga;gA;c99", 7);
        wrong("ga;gA;c0;1a", 8);
        wrong("ga;gA;c0a", 8);
        wrong("ga;gA;c0,2a", 9);
        wrong("ga;gA;c0,10", 9);
        wrong("ga;gA;c5x", 7);
        wrong("ga;gA;c0/1", 8);
        wrong("ga;gA;c:", 7);
        wrong("ga;gA;c0,1b", 10);
        wrong("ga;gA;c0,1A", 10);
        wrong("ga;gA;c1,0a", 10);
        wrong("ga;gA;c1,1a", 10);
        wrong("gab;gAB;c0,1a", 12);
        wrong("gab;gAB;c0,1b", 12);
        wrong(SIXTEEN + ";", 31);
        wrong(SIXTEEN + ";g", 31);
        wrong(SIXTEEN + "x", 31);
        wrong(SIXTEEN + "aa", 32);
        wrong("ga;gA;c0,1a;ga;gA;c0,1", 22);
    }

    private static void faultsOfTexts() {
        ShortProofs x = new ShortProofs();
        fault(x, x.text(0, 1, -5, -5), -11, 1);
        fault(x, x.text(4, 9, -5, -5), -1, 0);
        fault(x, x.text(-1, 0, 0, 0), -1, 0);
        fault(x, x.text(0, 3, 0, 0), -2, 0);
        fault(x, x.text(0, -1, 0, 0), -2, 0);
        x.sheet(0, 1, 10);
        fault(x, x.text(0, 0, -1, -1), -12, 2);
        fault(x, x.text(0, 2, 0, 1), -12, 2);
        fault(x, x.text(0, 1, -1, -1), -14, 4);
        fault(x, x.text(0, 1, -1, 0), -13, 3);
        fault(x, x.text(0, 1, 11, 0), -13, 3);
        fault(x, x.text(0, 1, 10, 0), -100, 0);
        fault(x, x.text(0, 1, 10, 1), -13, 3);
        fault(x, x.text(0, 1, 0, 11), -13, 3);
        fault(x, x.text(0, 1, 5, Integer.MAX_VALUE), -13, 3);
        fault(x, x.text(0, 1, Integer.MAX_VALUE, Integer.MAX_VALUE), -13, 3);
        fault(x, x.text(0, 1, Integer.MIN_VALUE, Integer.MIN_VALUE), -14, 4);
        x.put(0, 4, 'g');
        x.put(0, 5, 'b');
        fault(x, x.text(0, 1, 4, 2), 0, 0);
        fault(x, x.text(0, 1, 4, 3), -102, 0);
        DUE.is("clause", x.line(0, 0, 0), 2);
        x.sheet(0, 0, 1);
        x.put(0, 0, 'g' + 256);
        fault(x, x.text(0, 0, 0, 1), 1, 0);
        x.sheet(0, 1, 1);
        x.put(0, 0, 'g' + 256);
        fault(x, x.text(0, 1, 0, 1), -100, 0);
        x.sheet(0, 2, 1);
        for (int code : new int[] {-1, -9, Integer.MIN_VALUE, Integer.MAX_VALUE, 'g' + 65536}) {
            x.put(0, 0, code);
            fault(x, x.text(0, 2, 0, 1), -100, 0);
        }
    }

    private static void fault(ShortProofs x, long got, long want, int fault) {
        DUE.is("answer", got, want);
        DUE.is("fault()", x.fault(), fault);
    }

    private static void fullOfTexts() {
        ShortProofs x = new ShortProofs();
        for (int p = 0; p < 12; p++) {
            DUE.is("text", Due.read(x, "ga;gb"), p);
        }
        DUE.is("a 13th", Due.read(x, "ga;gb"), ShortProofs.FULL);
        DUE.is("fault()", x.fault(), 0);
        DUE.is("a wrong 13th", Due.read(x, "ga;gx"), -104);
        DUE.is("many(0)", x.many(0), 12);
        DUE.is("many(1)", x.many(1), 24);
    }

    private static void lines() {
        ShortProofs x = Due.of(SQUARE, "ga");
        int[][] due = {
            {3, 0, -9, -9, -9}, {129, 0, -9, -9, -9}, {68, 0, -9, -9, -9}, {320, 0, -9, -9, -9},
            {1, 1, 0, 1, 1}, {64, 1, 2, 3, 2}, {0, 2, 4, 5, 0},
        };
        for (int l = 0; l < due.length; l++) {
            for (int what = 0; what < 5; what++) {
                DUE.is("line(0, " + l + ", " + what + ")", x.line(0, l, what), due[l][what]);
            }
        }
        DUE.is("a ground as end", x.line(1, 0, 1), 0);
        DUE.is("line(0, 7, 0)", x.line(0, 7, 0), -1);
        DUE.is("line(0, -1, 0)", x.line(0, -1, 0), -1);
        DUE.is("line(2, 0, 0)", x.line(2, 0, 0), -1);
        DUE.is("line(-1, 0, 9)", x.line(-1, 0, 9), -1);
        DUE.is("line(0, 0, 5)", x.line(0, 0, 5), -2);
        DUE.is("line(0, 0, -1)", x.line(0, 0, -1), -2);
    }

    private static void sizesAre(String text, int... due) {
        ShortProofs x = Due.of(text);
        for (int what = 0; what < due.length; what++) {
            DUE.is(text + ": size " + what, x.size(0, what), due[what]);
        }
        DUE.is("size 6", x.size(0, 6), -2);
        DUE.is("size -1", x.size(0, -1), -2);
        DUE.is("size of none", x.size(1, 0), -1);
        DUE.is("size of none", x.size(-1, 6), -1);
    }

    private static void sizes() {
        sizesAre(SQUARE, 7, 10, 2, 2, 5, 4);
        sizesAre("g", 1, 0, 0, 0, 1, 1);
        // none is cut from these: each is kept as it comes alone
        sizesAre("ga;gb;gcde", 3, 5, 3, 0, 1, 3);
        // idle lines are kept, too, as long as an idle one is cut from them
        sizesAre("ga;gA;gb;c0,1a;gc", 5, 4, 1, 0, 3, 4);
        // the deeper of two counts, on the left and on the right
        sizesAre("ga;gAb;c0,1a;gBc;c2,3b;gC;c4,5c", 7, 8, 2, 3, 3, 4);
        sizesAre("ga;gAB;gb;c2,1b;c0,3a", 5, 5, 2, 2, 4, 3);
    }

    private static void rests() {
        ShortProofs x = Due.of(SQUARE, "ga;gA;c0,1a;gb", "gb;ga;gd;gA;c1,3a;gB;c1,3a",
            "ga;g;g;g;g;g;g;g;g;gA;c0,9a", "ga;g;g;g;g;g;g;g;g;g;gA;c0,10a");
        DUE.is("rests", x.rests(0), 127);
        DUE.is("truly", x.truly(0), 15);
        DUE.is("rests", x.rests(1), 8);
        DUE.is("truly", x.truly(1), 4);
        DUE.is("rests", x.rests(2), 64 + 2 + 8);
        DUE.is("truly", x.truly(2), 2 + 8);
        DUE.is("rests", x.rests(3), 1024 + 512 + 1);
        DUE.is("ten grounds", x.truly(3), 512 + 1);
        DUE.is("rests", x.rests(4), 2048 + 1024 + 1);
        DUE.is("eleven grounds", x.truly(4), -3);
        DUE.is("rests", x.rests(5), -1);
        DUE.is("truly", x.truly(5), -1);
        DUE.is("truly", x.truly(-1), -1);
    }

    private static void fewestIs(String text, int least, int... row) {
        ShortProofs x = Due.of("g", text);
        DUE.is(text + ": fewest", x.fewest(1, -1), least);
        for (int k = 0; k < 12; k++) {
            DUE.is(text + ": fewest " + k, x.fewest(1, k), k < row.length ? row[k] : -9);
            DUE.is("another's in between", x.fewest(0, k), k == 0 ? 0 : -9);
        }
        DUE.is("fewest 12", x.fewest(1, 12), -1);
        DUE.is("fewest -2", x.fewest(1, -2), -1);
        DUE.is("fewest of none", x.fewest(2, -1), -1);
    }

    private static void fewest() {
        fewestIs(SQUARE, 4, 0, 1, 2, 4, 3, 5, 6);
        fewestIs("ga", 1, 0);
        // the end is a ground: the others are idle
        fewestIs("ga;gA;c0,1a;gb", 1, 3);
        fewestIs("ga;gb;gA;c0,2a", 3, 0, 2, 3);
        // a chain: each ground comes just ahead of its cut
        fewestIs("gAb;gBc;gCd;gD;ga;c4,0a;c5,1b;c6,2c;c7,3d", 3, 0, 4, 5, 1, 6, 2, 7, 3, 8);
        ShortProofs x = Due.of("gab;gAb;gaB;gAB;c0,1a;c2,3a;c0,2b;c1,3b;c4,5b",
            "gDe;gE;c0,1e;gAd;c3,2d;gab;gac;gBC;c5,4a;c6,4a;c9,7c;c8,10b");
        DUE.is("idle lines do not come", x.fewest(0, 6), 8);
        DUE.is("idle lines do not come", x.fewest(0, 7), -9);
        DUE.is("twelve lines", x.fewest(1, 11), 11);
        DUE.is("thirteen lines", tooMany(), ShortProofs.STATE);
    }

    /** A heap whose end rests on thirteen lines: its first proof makes the unit f by eleven. */
    private static int tooMany() {
        ShortProofs x = Due.of("gabcdef;gA;gB;gC;gD;gE;c0,1a;c6,2b;c7,3c;c8,4d;c9,5e", "gf;gF;c0,1f");
        DUE.is("heap", x.heap(0, 1), 2);
        DUE.is("thirteen lines", Integer.bitCount(x.rests(2)), 13);
        DUE.is("k is looked at ahead", x.fewest(2, 12), -1);
        return x.fewest(2, 0);
    }
}
