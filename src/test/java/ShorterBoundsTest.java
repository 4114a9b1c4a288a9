/** Promises 8 to 12: each boundary that they and the terms name, on both sides. */
public final class ShorterBoundsTest {
    private static final Due DUE = new Due("ShorterBoundsTest");
    private static final Bounds USUAL = new Bounds(DUE, Bounds::usual);
    private static final Bounds FULL = new Bounds(DUE, Bounds::full);
    /** By way 3 and by way 4 these make no clause. */
    private static final String STATE_3 = "gcd;gCD;gBcD;c0,2d;gd;c3,1c;c4,5d;gbd;c7,6b";
    private static final String STATE_4 = "gAb;ga;c1,0a;c1,0a;gAB;gaB;c3,4b;c2,5b;c7,6a";

    public static void main(String[] args) {
        shorterNumbers();
        shorterRefusals();
        oneProofMore();
        standIns();
        join();
        stronger();
        cutOnce();
        units();
        unitsByNoOtherWay();
        unitsCutLast();
        unitsOfEachLetter();
        unitsThatAreCutAhead();
        noClause();
        safe();
        twice();
        heapNumbers();
        heapRefusals();
        howManyLines();
        behindTheEnd();
        shared();
        DUE.end();
    }

    /** "UNKNOWN; OUTSIDE": a way (0 .. 4). */
    private static void shorterNumbers() {
        USUAL.range("shorter of proof", 0, 1, Bounds.UNKNOWN, (x, p) -> x.shorter(p, 0));
        USUAL.range("shorter by way", 0, 4, Bounds.OUTSIDE, (x, way) -> x.shorter(0, way));
        USUAL.tells("UNKNOWN ahead of OUTSIDE", -1, x -> x.shorter(2, 5));
        USUAL.tells("UNKNOWN ahead of OUTSIDE", -1, x -> x.shorter(-1, -1));
    }

    private static ShortProofs fullOf(String text) {
        ShortProofs x = Due.of(text);
        while (x.many(0) < 12) {
            x.shorter(0, 0);
        }
        return x;
    }

    /** "UNKNOWN; OUTSIDE; STATE; FULL": in this order, and they change nothing. */
    private static void shorterRefusals() {
        String[] texts = {STATE_3, STATE_4};
        for (int k = 0; k < 2; k++) {
            int way = 3 + k;
            String text = texts[k];
            Bounds free = new Bounds(DUE, () -> Due.of(text));
            free.tells("STATE by way " + way, -3, x -> x.shorter(0, way));
            free.tells("OUTSIDE", -2, x -> x.shorter(0, 5));
            Bounds full = new Bounds(DUE, () -> fullOf(text));
            full.tells("UNKNOWN ahead of FULL", -1, x -> x.shorter(12, way));
            full.tells("OUTSIDE ahead of FULL", -2, x -> x.shorter(0, 5));
            full.tells("STATE ahead of FULL", -3, x -> x.shorter(0, way));
            full.tells("FULL", -4, x -> x.shorter(0, 0));
        }
        for (int way = 0; way < 5; way++) {
            int by = way;
            FULL.tells("FULL by way " + way, -4, x -> x.shorter(0, by));
            FULL.tells("FULL by way " + way, -4, x -> x.shorter(11, by));
        }
    }

    /** "12 ever, numbered as they come": the twelfth is made, a thirteenth is not. */
    private static void oneProofMore() {
        String square = "gab;gaB;gAc;gAC;c0,1b;c2,3c;c4,5a";
        for (int way = 0; way < 5; way++) {
            int by = way;
            USUAL.changes("shorter by way " + way, 2, Bounds.OLD, x -> x.shorter(0, by),
                "proofs", "3", "lines", "16", "proof 2", square);
            USUAL.changes("shorter by way " + way, 2, Bounds.OLD, x -> x.shorter(1, by),
                "proofs", "3", "lines", "10", "proof 2", "gb");
        }
        ShortProofs x = Bounds.usual();
        for (int p = 2; p < 12; p++) {
            DUE.is("shorter", x.shorter(p - 1, 0), p);
        }
        DUE.is("a 13th", x.shorter(0, 0), -4);
        DUE.is("many(0)", x.many(0), 12);
        DUE.is("many(1)", x.many(1), 9 + 10);
    }

    private static void made(int way, String text, String due) {
        ShortProofs x = Due.of(text);
        DUE.is("shorter by way " + way + " of " + text, x.shorter(0, way), 1);
        DUE.same("shorter by way " + way + " of " + text, Due.told(x, 1), due);
    }

    /** "A CUT of which the new LINE that stands for its LEFT has not its LETTER is stood for by that; else .." */
    private static void standIns() {
        // the left's stand-in has it not; the right's; neither of them: the left's is taken
        made(2, "gc;gac;gAd;c1,2a", "gc");
        made(2, "gd;gac;gAd;c1,2a", "gd");
        made(2, "gc;gd;gac;gAd;c2,3a", "gc");
        made(2, "gd;gc;gac;gAd;c2,3a", "gc");
        // both have it: the cut of both
        made(2, "ga;gac;gAd;c1,2a", "ga;gAd;c0,1a");
        made(2, "gA;gac;gAd;c1,2a", "gA;gac;c1,0a");
        // "behind that all that is IDLE in it is let go; numbers close up"
        for (int way = 0; way < 5; way++) {
            made(way, "gb;ga;gc;gA;gd;c1,3a", "ga;gA;c0,1a");
            made(way, "gb;gc;gd;ge;gf", "gf");
            made(way, "gb;gBd;c0,1b;ga", "ga");
            made(way, "g", "g");
            made(way, "ga;gA;c0,1a", "ga;gA;c0,1a");
        }
    }

    /** "A LINE that would have the CLAUSE of a new LINE is stood for by the first such one." */
    private static void join() {
        made(0, "ga;ga;ga;gA;c2,3a", "ga;gA;c0,1a");
        made(1, "gb;ga;ga;ga;gA;c3,4a", "ga;gA;c0,1a");
        // two that are unlike in one sign stay
        made(1, "ga;gab;gAb;c1,2a", "gab;gAb;c0,1a");
        made(1, "ga;gA;c0,1a;ga;gA;c3,4a", "ga;gA;c0,1a");
        // a cut is stood for by a ground, a ground by a cut, a cut by a cut
        made(1, "gb;ga;gAb;c1,2a", "gb");
        made(1, "ga;gAb;c0,1a;gb", "ga;gAb;c0,1a");
        made(1, "ga;gAb;gc;gCb;c0,1a;c2,3c", "ga;gAb;c0,1a");
    }

    /** "A LINE that has a new LINE STRONGER than it is stood for by the first such one." */
    private static void stronger() {
        made(2, "gab;gac;gabc", "gab");
        made(2, "gac;gab;gabc", "gac");
        made(2, "gab;ga;gabc", "gab");
        // the same is STRONGER; a part that is none is not
        made(2, "gab;gab", "gab");
        made(2, "gab;gaB", "gaB");
        made(2, "gab;ga", "ga");
        made(2, "g;ga;gA;c1,2a", "g");
        made(2, "g;gabcdef", "g");
        // a new cut is one, too; JOIN does not take it
        made(2, "gb;gB;c0,1b;ga", "gb;gB;c0,1b");
        made(1, "gb;gB;c0,1b;ga", "ga");
    }

    /** "A CUT for which its LETTER is SAFE .. by its LEFT; else one for which it is SAFE with NOT by its RIGHT." */
    private static void cutOnce() {
        made(3, "gab;gAc;c0,1a;gaB;c2,3b;gA;c4,5a", "gab;gaB;c0,1b;gA;c2,3a");
        made(3, "gAb;gac;c1,0a;gAB;c2,3b;ga;c5,4a", "gAb;gAB;c0,1b;ga;c3,2a");
        // a letter of the end is safe for all
        made(3, "gab;gA;c0,1a;gaB;c2,3b", "gab;gaB;c0,1b");
        // a is safe for line 2 on one way alone, so that cut stays; for line 4 b is safe with not
        made(3, "gab;gA;c0,1a;gaB;c2,3b;gABc;gC;c5,6c;c4,7a;c2,8b",
            "gab;gA;c0,1a;gaB;gABc;gC;c4,5c;c3,6a;c2,7b");
        // a is safe for line 2 both ways
        made(3, "gab;gAb;c0,1a;gaBc;c2,3b;gAc;c4,5a;gAC;c6,7c;ga;c9,8a", "gAc;gAC;c0,1c;ga;c3,2a");
    }

    /** "LINES of one SIGN, not the END, .. from which two CUTS or more are made on which it RESTS." */
    private static void units() {
        String one = "ga;gAb;c0,1a;gB;c2,3b";
        made(4, one, one);
        made(4, "ga;gAb;gABc;gC;c0,1a;c0,2a;c4,5b;c6,3c", "ga;gAb;gABc;gC;c1,2b;c4,3c;c0,5a");
        made(4, "ga;gAb;gABc;gC;c0,1a;c0,2a;c0,1a;c6,5b;c7,3c", "ga;gAb;gABc;gC;c1,2b;c4,3c;c0,5a");
        // the second cut is idle
        made(4, "ga;gAb;gAc;c0,2a;c0,1a;gB;c4,5b", one);
        // two signs are no unit, though four cuts are made from it
        String wide = "gab;gAc;gAC;c0,1a;c0,2a;c3,4c;gB;c5,6b";
        made(4, wide, wide);
        // idle ones are none
        made(4, "ga;gAb;gAc;c0,1a;c0,2a;gd", "gd");
    }

    /** The end has the other sign of a unit, and of a line that is none: by way 4 alone the unit is cut from it. */
    private static void unitsByNoOtherWay() {
        String end = "ga;gAb;c0,1a;gABc;c0,3a;c2,4b;gACd;c5,6c";
        String right = "gA;gab;gaB;c1,0a;c2,0a;c3,4b";
        for (int way = 0; way < 3; way++) {
            made(way, end, end);
            made(way, right, right);
        }
        made(3, end, "gAb;gABc;c0,1b;gACd;c2,3c");
        made(3, right, right);
        made(4, end, "ga;gAb;gABc;c1,2b;gACd;c3,4c;c0,5a");
        made(4, right, "gA;gab;gaB;c1,2b;c3,0a");
        String once = "ga;gAb;c0,1a;gABc;c2,3b";
        made(4, once, once);
    }

    /** "Behind all LINES: for each UNIT, the last one first: .. the CUT of that and of what stands for the UNIT." */
    private static void unitsCutLast() {
        // LEFT is the one with the letter: the unit with the letter, and with not
        made(4, "ga;gAb;gAB;c0,1a;c0,2a;c3,4b", "ga;gAb;gAB;c1,2b;c0,3a");
        made(4, "gA;gab;gaB;c1,0a;c2,0a;c3,4b", "gA;gab;gaB;c1,2b;c3,0a");
        // a unit that is a cut from another unit is cut ahead of it
        made(4, "ga;gAb;c0,1a;gBc;gABC;c0,4a;c2,3b;c2,5b;c6,7c", "ga;gAb;gBc;gABC;c2,3c;c1,4b;c0,5a");
        // both are units: the right's stand-in is taken
        made(4, "ga;gA;gAb;gaB;c0,2a;c3,1a;c4,5b;c0,1a", "ga;gA;c0,1a");
    }

    /** A UNIT of each letter, both ways, that is a GROUND and that is a CUT. */
    private static void unitsOfEachLetter() {
        for (int k = 0; k < 6; k++) {
            String u = String.valueOf((char) ('a' + k));
            String v = String.valueOf((char) ('a' + (k + 1) % 6));
            String w = String.valueOf((char) ('a' + (k + 2) % 6));
            for (int way = 0; way < 2; way++) {
                boolean plain = way == 0;
                String sign = plain ? u : u.toUpperCase();
                String other = plain ? u.toUpperCase() : u;
                String ofOthers = "g" + ordered(other, v) + ";g" + ordered(other, v.toUpperCase());
                String ground = "g" + sign + ";" + ofOthers;
                made(4, ground + ";" + cut(0, 1, u, plain) + ";" + cut(0, 2, u, plain) + ";c3,4" + v,
                    ground + ";c1,2" + v + ";" + cut(0, 3, u, plain));
                String ofUnit = "g" + ordered(sign, w) + ";g" + ordered(sign, w.toUpperCase());
                String byCut = ofUnit + ";c0,1" + w + ";" + ofOthers;
                made(4, byCut + ";" + cut(2, 3, u, plain) + ";" + cut(2, 4, u, plain) + ";c5,6" + v,
                    byCut + ";c3,4" + v + ";" + cut(2, 5, u, plain));
            }
        }
    }

    /** Two signs as Due tells them: the one of the lesser letter first. */
    private static String ordered(String one, String two) {
        return one.compareToIgnoreCase(two) < 0 ? one + two : two + one;
    }

    /** The cut of a unit and another line: the one with the letter is LEFT. */
    private static String cut(int unit, int line, String letter, boolean unitIsLeft) {
        return "c" + (unitIsLeft ? unit + "," + line : line + "," + unit) + letter;
    }

    /** "If what stands for the END has the other SIGN of its LETTER": where it has not, no CUT comes. */
    private static void unitsThatAreCutAhead() {
        made(4, "ga;gAb;c0,1a;gABc;c0,3a;c2,4b;gAC;c5,6c;gad;c8,7a", "gAb;gABc;c0,1b;gAC;c2,3c;gad;c5,4a");
        made(4, "gA;gab;c1,0a;gaBc;c3,0a;c2,4b;gaC;c5,6c;gAd;c7,8a", "gab;gaBc;c0,1b;gaC;c2,3c;gAd;c4,5a");
        // the end has the sign itself, not the other one
        made(4, "ga;gAb;c0,1a;gABc;c0,3a;c2,4b;gAC;c5,6c;gad;c8,7a;gaD;c9,10d",
            "gAb;gABc;c0,1b;gAC;c2,3c;gad;c5,4a;gaD;c6,7d");
    }

    /** "(By ways 3 and 4 these may make no CLAUSE: STATE)"; by other ways they do. */
    private static void noClause() {
        for (int way = 0; way < 5; way++) {
            DUE.is("way " + way, Due.of(STATE_3).shorter(0, way), way == 3 ? -3 : 1);
            DUE.is("way " + way, Due.of(STATE_4).shorter(0, way), way == 4 ? -3 : 1);
        }
        // "(STATE, if these make no CLAUSE)": what stands for unit b is Ab, what stands for the end is aB
        Bounds last = new Bounds(DUE, () -> Due.of("ga;gAc;c0,1a;gACb;c0,3a;c2,4c;gBd;c5,6b;gaBD;c5,8b;c7,9d"));
        last.tells("the cut of a unit", -3, x -> x.shorter(0, 4));
        // with e for a in the end there is no clash, and both units are cut last
        made(4, "ga;gAc;c0,1a;gACb;c0,3a;c2,4c;gBd;c5,6b;geBD;c5,8b;c7,9d",
            "ga;gAc;gAbC;c1,2c;gBd;gBDe;c4,5d;c3,6b;c0,7a");
        // behind a refused one the same object makes others as if nothing had been
        ShortProofs x = Due.of(STATE_3, STATE_4);
        DUE.is("way 3", x.shorter(0, 3), -3);
        DUE.is("way 4", x.shorter(1, 4), -3);
        DUE.is("way 0", x.shorter(0, 0), 2);
        DUE.same("way 0", Due.told(x, 2), STATE_3);
        DUE.is("way 4", x.shorter(1, 4), -3);
        DUE.is("a text", Due.read(x, "gAb;gAB;ga;gA;c2,3a"), 3);
        for (int way = 1; way < 3; way++) {
            DUE.is("way " + way, x.shorter(3, way), 3 + way);
            DUE.same("way " + way, Due.told(x, 3 + way), "ga;gA;c0,1a");
            DUE.is("way 3", x.shorter(0, 3), -3);
        }
    }

    /** "UNKNOWN"; "a LETTER may be in it both ways; all 4095 of one that is IDLE". */
    private static void safe() {
        USUAL.range("safe of proof", 0, 1, Bounds.UNKNOWN, (x, p) -> x.safe(p, 0));
        USUAL.range("safe of line", 0, 6, Bounds.UNKNOWN, (x, l) -> x.safe(0, l));
        USUAL.range("safe of line", 0, 1, Bounds.UNKNOWN, (x, l) -> x.safe(1, l));
        int[] due = {3, 129, 68, 320, 1, 64, 0};
        for (int k = 0; k < due.length; k++) {
            int l = k;
            USUAL.tells("safe " + l, due[l], x -> x.safe(0, l));
        }
        USUAL.tells("an idle one", 4095, x -> x.safe(1, 0));
        USUAL.tells("an end that is a ground", 2, x -> x.safe(1, 1));
        ShortProofs x = Due.of("gab;gAb;c0,1a;gaBc;c2,3b;gAc;c4,5a;gAC;c6,7c;ga;c9,8a");
        DUE.is("a both ways", x.safe(0, 2), Due.clause("abcA"));
        DUE.is("the end", x.safe(0, 10), 0);
        DUE.is("an empty end's left", x.safe(0, 9), 1);
        // "one that is LEFT here and RIGHT there counts each": line 0 is LEFT of line 3, RIGHT of line 4
        ShortProofs y = Due.of("gaB;gA;gb;c0,1a;c2,0b;gAb;c4,5a;gbc;c7,3b;gBC;c6,9b;c8,10c");
        String[] both = {"aB", "AcB", "abC", "cB", "abC", "AbC", "bC", "bc", "c", "BC", "C", ""};
        for (int l = 0; l < both.length; l++) {
            DUE.is("LEFT here and RIGHT there: line " + l, y.safe(0, l), Due.clause(both[l]));
        }
    }

    /** "How many LINES of a PROOF have a CLAUSE that a LINE ahead has. UNKNOWN." */
    private static void twice() {
        USUAL.range("twice", 0, 1, Bounds.UNKNOWN, (x, p) -> x.twice(p));
        USUAL.tells("none", 0, x -> x.twice(0));
        ShortProofs x = Due.of("g", "g;g", "g;g;g", "g;g;g;g;g;g;g;g;g;g;g;g;g;g;g;g", "ga;gA;ga;gA;gb");
        int[] due = {0, 1, 2, 15, 2};
        for (int p = 0; p < due.length; p++) {
            DUE.is("twice(" + p + ")", x.twice(p), due[p]);
        }
    }

    /** "UNKNOWN." */
    private static void heapNumbers() {
        USUAL.range("heap's first", 0, 1, Bounds.UNKNOWN, (x, p) -> x.heap(p, 1));
        USUAL.range("heap's second", 0, 1, Bounds.UNKNOWN, (x, q) -> x.heap(1, q));
        USUAL.changes("heap(0, 1)", 2, Bounds.OLD, x -> x.heap(0, 1), "proofs", "3", "lines", "17",
            "proof 2", "gab;gaB;gAc;gAC;c0,1b;c2,3c;c4,5a;gb");
        USUAL.changes("heap(1, 0)", 2, Bounds.OLD, x -> x.heap(1, 0), "proofs", "3", "lines", "17",
            "proof 2", "ga;gb;gab;gaB;gAc;gAC;c4,5c;c0,6a");
        USUAL.changes("heap(1, 1)", 2, Bounds.OLD, x -> x.heap(1, 1), "proofs", "3", "lines", "11",
            "proof 2", "ga;gb");
    }

    private static final String SIXTEEN = "ga;gb;gc;gd;ge;gf;gA;gB;gC;gD;gE;gF;g;gab;gac;gad";
    private static final String EIGHT = "gbc;gbd;gbe;gbf;gcd;gce;gcf;gde";

    private static ShortProofs longOnes() {
        return Due.of(SIXTEEN, EIGHT, EIGHT + ";gdf", EIGHT + ";ga;gb", EIGHT + ";gdf;gde");
    }

    private static ShortProofs fullOfLongOnes() {
        ShortProofs x = longOnes();
        while (x.many(0) < 12) {
            x.shorter(1, 0);
        }
        return x;
    }

    /** "UNKNOWN; STATE: it has more than 24 LINES; FULL": in this order. */
    private static void heapRefusals() {
        Bounds free = new Bounds(DUE, ShorterBoundsTest::longOnes);
        free.tells("25 lines", -3, x -> x.heap(0, 2));
        free.tells("UNKNOWN ahead of STATE", -1, x -> x.heap(0, 5));
        Bounds full = new Bounds(DUE, ShorterBoundsTest::fullOfLongOnes);
        full.tells("UNKNOWN ahead of FULL", -1, x -> x.heap(12, 0));
        full.tells("UNKNOWN ahead of FULL", -1, x -> x.heap(0, 12));
        full.tells("STATE ahead of FULL", -3, x -> x.heap(0, 2));
        full.tells("FULL", -4, x -> x.heap(0, 1));
        FULL.tells("FULL", -4, x -> x.heap(1, 1));
        ShortProofs x = Due.of("ga");
        for (int p = 1; p < 12; p++) {
            DUE.is("heap", x.heap(0, p - 1), p);
        }
        DUE.is("a 13th", x.heap(0, 0), -4);
    }

    /** "24 at most": 24 and 25, of two that share none, one and all. */
    private static void howManyLines() {
        ShortProofs x = longOnes();
        DUE.is("16 and 8", x.heap(0, 1), 5);
        DUE.is("24 lines", x.size(5, 0), 24);
        DUE.is("16 and 9", x.heap(0, 2), -3);
        DUE.is("9 and 16", x.heap(2, 0), -3);
        DUE.is("16 and 10, two of them shared", x.heap(0, 3), 6);
        DUE.is("the end is line 1", x.size(6, 0), 2);
        DUE.is("24 and 8, all shared", x.heap(5, 1), 7);
        DUE.is("24 lines", x.size(7, 0), 24);
        DUE.is("24 and 9, eight of them shared", x.heap(5, 2), -3);
        DUE.is("25 lines, but one of them behind the end", x.heap(0, 4), 8);
        DUE.is("24 lines", x.size(8, 0), 24);
        DUE.is("24 and the same 24", x.heap(5, 8), 9);
        DUE.is("24 lines", x.size(9, 0), 24);
        DUE.is("many(1)", x.many(1), 16 + 8 + 9 + 10 + 10 + 24 + 2 + 24 + 24 + 24);
        ShortProofs y = Due.of(SIXTEEN, EIGHT, "gaB;gaC;gaD;gaE;gaF;gbA;gbC;gbD;gbE;gbF;gcA;gcB;gcD;gcE;gcF",
            "gdA;gdB;gdC;gdE;gdF;geA;geB;geC;geD");
        DUE.is("24 lines", y.heap(0, 1), 4);
        DUE.is("24 other lines", y.heap(2, 3), 5);
        DUE.is("24 other lines", y.size(5, 0), 24);
        DUE.is("48 lines", y.heap(4, 5), -3);
        DUE.is("48 lines", y.heap(5, 4), -3);
        DUE.is("another end", Due.read(y, "ga"), 6);
        DUE.is("15 and an end", y.heap(2, 6), 7);
        DUE.is("15 and an end", y.size(7, 0), 16);
        DUE.is("24, 15 more and an end of before: all behind it are let go", y.heap(4, 7), 8);
        DUE.is("one line", y.size(8, 0), 1);
        DUE.is("nine and an end", Due.read(y, "gdA;gdB;gdC;gdE;gdF;geA;geB;geC;gad"), 9);
        DUE.is("23 other lines and an end of before", y.heap(2, 9), 10);
        DUE.is("23 other lines and an end of before", y.size(10, 0), 24);
        DUE.is("24, 23 more and an end of before", y.heap(4, 10), 11);
        DUE.is("the sixteenth is the end", y.size(11, 0), 16);
        // cuts are lines like others
        ShortProofs z = Due.of(SIXTEEN, "gbc;gbd;gbe;gbf;gcd;gce;gAef;gab;c7,6a",
            "gbc;gbd;gbe;gbf;gcd;gce;gcf;gAef;gab;c8,7a");
        DUE.is("23 grounds and a cut", z.heap(0, 1), 3);
        DUE.is("23 grounds and a cut", z.size(3, 0), 24);
        DUE.is("24 grounds and a cut", z.heap(0, 2), -3);
        DUE.is("24 grounds and a cut", z.heap(2, 0), -3);
    }

    /** "LINES behind what stands for the second one's END are let go; IDLE ones stay." */
    private static void behindTheEnd() {
        String[][] heaps = {
            {"ga", "ga", "ga"}, {"ga;gb", "ga", "ga"}, {"gb;ga", "ga", "gb;ga"}, {"ga", "gb;ga", "ga"},
            {"ga", "ga;gb", "ga;gb"}, {"gb;gc", "gd;gc", "gb;gc"}, {"gb;gc", "gd;ge;gd", "gb;gc;gd"},
            {"ga;ga", "gb;gb", "ga;gb"}, {"ga;gA;c0,1a", "g", "ga;gA;c0,1a"}, {"g", "ga;gA;c0,1a", "g"},
            {"gb", "ga;gAb;c0,1a;gB;c2,3b", "gb;ga;gAb;gB;c0,3b"},
        };
        for (String[] row : heaps) {
            ShortProofs x = Due.of(row[0], row[1]);
            DUE.is("heap of " + row[0] + " and " + row[1], x.heap(0, 1), 2);
            DUE.same("heap of " + row[0] + " and " + row[1], Due.told(x, 2), row[2]);
        }
    }

    /** "How many unlike CLAUSES are in both. UNKNOWN." */
    private static void shared() {
        USUAL.range("shared's first", 0, 1, Bounds.UNKNOWN, (x, p) -> x.shared(p, 0));
        USUAL.range("shared's second", 0, 1, Bounds.UNKNOWN, (x, q) -> x.shared(0, q));
        USUAL.tells("one", 1, x -> x.shared(0, 1));
        USUAL.tells("one", 1, x -> x.shared(1, 0));
        USUAL.tells("all", 7, x -> x.shared(0, 0));
        ShortProofs x = longOnes();
        DUE.is("heap", x.heap(0, 1), 5);
        DUE.is("none", x.shared(0, 1), 0);
        DUE.is("eight", x.shared(1, 2), 8);
        DUE.is("two", x.shared(3, 0), 2);
        DUE.is("24", x.shared(5, 5), 24);
        DUE.is("sixteen", x.shared(0, 5), 16);
        ShortProofs y = Due.of("g;g;g;ga", "ga;g;g", "gab");
        DUE.is("the same more than once", y.shared(0, 1), 2);
        DUE.is("stronger is not the same", y.shared(0, 2), 0);
    }
}
