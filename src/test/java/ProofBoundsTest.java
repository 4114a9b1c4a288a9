/** Promises 1 and 3 to 7: each boundary that they and the terms name, on both sides. */
public final class ProofBoundsTest {
    private static final Due DUE = new Due("ProofBoundsTest");
    private static final Bounds USUAL = new Bounds(DUE, Bounds::usual);
    private static final Bounds NEW = new Bounds(DUE, ShortProofs::new);
    private static final String TEN = "g;g;g;g;g;g;g;g;ga;gA;c8,9a";
    private static final String ELEVEN = "g;g;g;g;g;g;g;g;g;ga;gA;c9,10a";

    public static void main(String[] args) {
        newObject();
        constants();
        line();
        noneOfGrounds();
        size();
        leastAndMost();
        kept();
        sizesInTurn();
        rests();
        truly();
        fewest();
        twelveAndThirteen();
        ordersInTurn();
        DUE.end();
    }

    /** "No PROOFS, SHEETS": nothing is known to any call. */
    private static void newObject() {
        ShortProofs x = new ShortProofs();
        DUE.is("fault() ahead of any", x.fault(), 0);
        DUE.same("a new object", Seen.all(x).toString(), "{lines=0, proofs=0, "
            + "sheet 0=nothing, sheet 1=nothing, sheet 2=nothing, sheet 3=nothing, trace=0}");
        NEW.tells("line", -1, y -> y.line(0, 0, 0));
        NEW.tells("size", -1, y -> y.size(0, 0));
        NEW.tells("rests", -1, y -> y.rests(0));
        NEW.tells("truly", -1, y -> y.truly(0));
        NEW.tells("fewest", -1, y -> y.fewest(0, -1));
        NEW.tells("shorter", -1, y -> y.shorter(0, 0));
        NEW.tells("safe", -1, y -> y.safe(0, 0));
        NEW.tells("twice", -1, y -> y.twice(0));
        NEW.tells("heap", -1, y -> y.heap(0, 0));
        NEW.tells("shared", -1, y -> y.shared(0, 0));
        NEW.tells("core", -1, y -> y.core(0, 0, 0));
        NEW.tells("middle", Due.LOST, y -> y.middle(0, 0, 0));
        NEW.tells("truths", Due.LOST, y -> y.truths(0, 0, 0));
        NEW.tells("cuts", -1, y -> y.cuts(0, 0));
        NEW.tells("units", -1, y -> y.units(0, 0));
        NEW.tells("follows", -1, y -> y.follows(0, 0));
        NEW.tells("tell", -1, y -> y.tell(0, 0));
        NEW.tells("show", -1, y -> y.show(0, 0));
        NEW.clears("as", -1, y -> y.as(0, 0, 0));
        for (int k = 0; k < 4; k++) {
            int sheet = k;
            NEW.tells("lose", 0, y -> y.lose(sheet));
            NEW.faults("put", Bounds.NULL, y -> y.put(sheet, 0, 0));
            NEW.losesBy("cell", Bounds.NULL, y -> y.cell(sheet, 0, 0));
            NEW.faults("copy", Bounds.NULL, y -> y.copy(sheet, 0, sheet, 0, 0));
            NEW.faults("text", Bounds.NULL, y -> y.text(sheet, 0, 0, 0));
        }
        ShortProofs other = Bounds.usual();
        DUE.is("another object has its own", new ShortProofs().many(0), 0);
        DUE.is("another object has its own", other.many(0), 2);
    }

    private static void constants() {
        DUE.is("UNKNOWN", ShortProofs.UNKNOWN, -1);
        DUE.is("OUTSIDE", ShortProofs.OUTSIDE, -2);
        DUE.is("STATE", ShortProofs.STATE, -3);
        DUE.is("FULL", ShortProofs.FULL, -4);
        DUE.is("NONE", ShortProofs.NONE, -9);
        DUE.is("LOST", ShortProofs.LOST, Long.MIN_VALUE);
    }

    /** "UNKNOWN; OUTSIDE." */
    private static void line() {
        USUAL.range("line of proof", 0, 1, Bounds.UNKNOWN, (x, p) -> x.line(p, 0, 0));
        USUAL.range("line", 0, 6, Bounds.UNKNOWN, (x, l) -> x.line(0, l, 0));
        USUAL.range("line of a short one", 0, 1, Bounds.UNKNOWN, (x, l) -> x.line(1, l, 0));
        USUAL.range("line's what", 0, 4, Bounds.OUTSIDE, (x, what) -> x.line(0, 6, what));
        USUAL.range("line's what of a ground", 0, 4, Bounds.OUTSIDE, (x, what) -> x.line(0, 0, what));
        USUAL.tells("UNKNOWN ahead of OUTSIDE", -1, x -> x.line(2, 0, 5));
        USUAL.tells("UNKNOWN ahead of OUTSIDE", -1, x -> x.line(0, 7, 5));
        int[] end = {0, 2, 4, 5, 0};
        for (int k = 0; k < end.length; k++) {
            int what = k;
            USUAL.tells("the end's " + what, end[what], x -> x.line(0, 6, what));
        }
    }

    /** "2 .. 4 of a GROUND: NONE"; "the last LINE is the END; if it is a CUT, its kind is 2". */
    private static void noneOfGrounds() {
        for (int what = 2; what <= 4; what++) {
            int asked = what;
            USUAL.tells("of a ground", -9, x -> x.line(0, 3, asked));
            USUAL.tells("of a ground that is the end", -9, x -> x.line(1, 1, asked));
        }
        USUAL.tells("a ground's kind", 0, x -> x.line(0, 3, 1));
        USUAL.tells("a cut's kind", 1, x -> x.line(0, 4, 1));
        USUAL.tells("the cut ahead of the end", 1, x -> x.line(0, 5, 1));
        USUAL.tells("the end's kind", 2, x -> x.line(0, 6, 1));
        USUAL.tells("the kind of an end that is a ground", 0, x -> x.line(1, 1, 1));
        // left 0, right 0 and letter 0 are told as such, not as NONE
        ShortProofs x = Due.of("ga;gA;c0,1a", "gA;ga;c1,0a", "gf;gF;c0,1f");
        DUE.is("left 0", x.line(0, 2, 2), 0);
        DUE.is("right 0", x.line(1, 2, 3), 0);
        DUE.is("letter 0", x.line(0, 2, 4), 0);
        DUE.is("letter 5", x.line(2, 2, 4), 5);
        DUE.is("the empty clause", x.line(2, 2, 0), 0);
        DUE.is("all with not", Due.of("gABCDEF").line(0, 0, 0), 4032);
        DUE.is("all letters", Due.of("gabcdef").line(0, 0, 0), 63);
    }

    /** "UNKNOWN; OUTSIDE." */
    private static void size() {
        USUAL.range("size of proof", 0, 1, Bounds.UNKNOWN, (x, p) -> x.size(p, 0));
        USUAL.range("size's what", 0, 5, Bounds.OUTSIDE, (x, what) -> x.size(0, what));
        USUAL.tells("UNKNOWN ahead of OUTSIDE", -1, x -> x.size(2, 6));
        int[] due = {7, 10, 2, 2, 5, 4};
        for (int k = 0; k < due.length; k++) {
            int what = k;
            USUAL.tells("size " + what, due[what], x -> x.size(0, what));
        }
    }

    private static void sizesAre(ShortProofs x, int p, int... due) {
        for (int what = 0; what < due.length; what++) {
            DUE.is(Due.told(x, p) + ": size " + what, x.size(p, what), due[what]);
        }
    }

    /** The least and the greatest sizes: one line, no sign; 24 lines, six signs. */
    private static void leastAndMost() {
        sizesAre(Due.of("g"), 0, 1, 0, 0, 0, 1, 1);
        sizesAre(Due.of("gabcdef"), 0, 1, 6, 6, 0, 1, 1);
        sizesAre(Due.of("gABCDEF;g"), 0, 2, 6, 6, 0, 1, 2);
        // the widest may be a cut, and no line that is idle is left out
        sizesAre(Due.of("gabcd;gAef;c0,1a"), 0, 3, 12, 5, 1, 3, 2);
        sizesAre(Due.of("gabcd;gAef;c0,1a;ga"), 0, 4, 13, 5, 0, 3, 3);
        ShortProofs x = Due.of("ga;gb;gc;gd;ge;gf;gA;gB;gC;gD;gE;gF;gab;gac;gad;gae",
            "gaf;gbc;gbd;gbe;gbf;gcd;gce;gcf");
        DUE.is("heap", x.heap(0, 1), 2);
        sizesAre(x, 2, 24, 12 + 24, 2, 0, 1, 24);
        DUE.is("line 23", x.line(2, 23, 0), Due.clause("cf"));
        DUE.is("line 24", x.line(2, 24, 0), -1);
        DUE.is("rests on line 23 alone", x.rests(2), 1 << 23);
        DUE.is("more than 10 grounds", x.truly(2), -3);
        DUE.is("fewest of one line", x.fewest(2, -1), 1);
        DUE.is("fewest of one line", x.fewest(2, 0), 23);
        DUE.is("fewest of one line", x.fewest(2, 1), -9);
        // a ground that is used early and late is kept between
        sizesAre(Due.of("gab;gA;gaB;c0,1a;c3,2b;c4,1a"), 0, 6, 7, 2, 3, 4, 3);
    }

    /** "Each is kept till the last LINE that is cut from it has come (one that none is cut from as it comes alone)." */
    private static void kept() {
        String[] texts = {
            "ga", "ga;gb;gc", "ga;gA;c0,1a", "ga;gA;c0,1a;gb", "ga;gA;gb;c0,1a",
            // the first is kept till its second cut, which is idle
            "ga;gA;gAb;c0,1a;c0,2a;gc", "ga;gA;gAb;gAc;c0,1a;gd;c0,2a;gc",
            // one that comes behind a last use no longer meets it
            "ga;gAb;c0,1a;gB;c2,3b", "gab;gA;c0,1a;gAb;c0,3a",
        };
        int[] due = {1, 1, 3, 3, 3, 4, 4, 3, 3};
        for (int k = 0; k < texts.length; k++) {
            DUE.is("kept of " + texts[k], Due.of(texts[k]).size(0, 4), due[k]);
        }
    }

    /** Sizes of proofs of one object in turn: none meets what another one left behind. */
    private static void sizesInTurn() {
        // of the first proof line 0 is used last of all, of the others not at all
        ShortProofs x = Due.of("ga;gb;gc;gd;gA;c0,4a", "ga;gb;gc;gd;ge;gf", "gf;gab;gA;c1,2a;gB;c3,4b", "g");
        int[][] due = {{6, 5, 1, 1, 3, 5}, {6, 6, 1, 0, 1, 6}, {6, 6, 2, 2, 3, 4}, {1, 0, 0, 0, 1, 1}};
        for (int turn = 0; turn < 12; turn++) {
            int p = turn * turn % 7 % 4;
            sizesAre(x, p, due[p]);
            sizesAre(x, turn % 4, due[turn % 4]);
        }
    }

    /** "UNKNOWN"; lines as a set. */
    private static void rests() {
        USUAL.range("rests", 0, 1, Bounds.UNKNOWN, (x, p) -> x.rests(p));
        USUAL.tells("rests", 127, x -> x.rests(0));
        USUAL.tells("an end that is a ground rests on itself alone", 2, x -> x.rests(1));
    }

    /** "STATE: there are more than 10 GROUNDS" (of all, not of those on which it rests). */
    private static void truly() {
        USUAL.range("truly", 0, 1, Bounds.UNKNOWN, (x, p) -> x.truly(p));
        USUAL.tells("truly", 15, x -> x.truly(0));
        USUAL.tells("truly", 2, x -> x.truly(1));
        Bounds made = new Bounds(DUE, () -> Due.of(TEN, ELEVEN, "g;g;g;g;g;g;g;g;g;g", "g;g;g;g;g;g;g;g;g;g;g"));
        made.tells("ten grounds", 512 + 256, x -> x.truly(0));
        made.tells("eleven grounds", -3, x -> x.truly(1));
        made.tells("ten grounds, no cut", 512, x -> x.truly(2));
        made.tells("eleven grounds, no cut", -3, x -> x.truly(3));
        made.tells("rests() has no such bound", 2048 + 1024 + 512, x -> x.rests(1));
        DUE.is("as grounds are numbered, not lines", Due.of("ga;gA;c0,1a;gb;gB;c3,4b").truly(0), 4 + 8);
    }

    /** "FEWEST (k -1), the k-th LINE of the order; NONE: there are fewer. UNKNOWN: PROOF, k is not -1 .. 11." */
    private static void fewest() {
        USUAL.range("fewest of proof", 0, 1, Bounds.UNKNOWN, (x, p) -> x.fewest(p, -1));
        USUAL.range("fewest's k", -1, 11, Bounds.UNKNOWN, (x, k) -> x.fewest(0, k));
        int[] due = {4, 0, 1, 2, 4, 3, 5, 6, -9, -9, -9, -9, -9};
        for (int at = 0; at < due.length; at++) {
            int k = at - 1;
            USUAL.tells("fewest " + k, due[at], x -> x.fewest(0, k));
            USUAL.tells("fewest " + k + " of a ground", k > 0 ? -9 : 1, x -> x.fewest(1, k));
        }
        // the first order of those that keep as few: lines with less numbers come first
        ShortProofs x = Due.of("gA;ga;c1,0a", "gB;gb;ga;gA;c2,3a;c1,0b");
        int[] row = {0, 1, 2};
        for (int k = 0; k < row.length; k++) {
            DUE.is("order", x.fewest(0, k), row[k]);
        }
        DUE.is("idle lines do not come", x.fewest(1, 2), 5);
        DUE.is("idle lines do not come", x.fewest(1, 3), -9);
    }

    /** "STATE: these are more than 12" (just the lines on which the end rests). */
    private static void twelveAndThirteen() {
        String eleven = "gabcdef;gA;gB;gC;gD;gE;c0,1a;c6,2b;c7,3c;c8,4d;c9,5e";
        String twelve = "gDe;gE;c0,1e;gAd;c3,2d;gab;gac;gBC;c5,4a;c6,4a;c9,7c;c8,10b";
        Bounds made = new Bounds(DUE, () -> {
            ShortProofs x = Due.of(eleven, "gf;gF;c0,1f", twelve, "gd;ge;gb;gc;gf;gB;gE;gF;gC;gD;gab;gaB;c10,11b");
            x.heap(0, 1);
            return x;
        });
        made.tells("eleven lines", 3, x -> x.fewest(0, -1));
        made.tells("the last of eleven", 10, x -> x.fewest(0, 10));
        made.tells("a twelfth of eleven", -9, x -> x.fewest(0, 11));
        made.tells("twelve lines", 4, x -> x.fewest(2, -1));
        made.tells("the last of twelve", 11, x -> x.fewest(2, 11));
        made.tells("k behind the last of twelve", -1, x -> x.fewest(2, 12));
        made.tells("thirteen lines of which the end rests on three", 3, x -> x.fewest(3, -1));
        made.tells("thirteen lines of which the end rests on three", 12, x -> x.fewest(3, 2));
        made.tells("thirteen lines of which the end rests on three", -9, x -> x.fewest(3, 3));
        for (int k = -1; k < 12; k++) {
            int asked = k;
            made.tells("thirteen lines", -3, x -> x.fewest(4, asked));
        }
        made.tells("UNKNOWN ahead of STATE", -1, x -> x.fewest(4, 12));
        made.tells("UNKNOWN ahead of STATE", -1, x -> x.fewest(4, -2));
    }

    /** Orders of long and short proofs in turn: none meets what another one left behind. */
    private static void ordersInTurn() {
        String[] texts = {
            "gDe;gE;c0,1e;gAd;c3,2d;gab;gac;gBC;c5,4a;c6,4a;c9,7c;c8,10b", "ga;gA;c0,1a", "g",
            "gAb;gBc;gCd;gD;ga;c4,0a;c5,1b;c6,2c;c7,3d", "gab;gaB;gAc;gAC;c0,1b;c2,3c;c4,5a",
        };
        int[][] due = {
            {4, 0, 1, 2, 3, 4, 5, 6, 8, 9, 7, 10, 11}, {3, 0, 1, 2}, {1, 0}, {3, 0, 4, 5, 1, 6, 2, 7, 3, 8},
            {4, 0, 1, 2, 4, 3, 5, 6},
        };
        ShortProofs x = Due.of(texts);
        for (int turn = 0; turn < 10; turn++) {
            int p = turn * 3 % 5;
            for (int k = -1; k < 12; k++) {
                DUE.is("fewest(" + p + ", " + k + ")", x.fewest(p, k), k + 1 < due[p].length ? due[p][k + 1] : -9);
            }
        }
    }
}
