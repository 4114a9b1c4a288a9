/** Promises 26 to 31: each boundary that they and the terms name, on both sides. */
public final class PartBoundsTest {
    private static final Due DUE = new Due("PartBoundsTest");
    /** Two proofs, of four grounds, two cuts and an end, and of two grounds; TRACE is 91327. */
    private static final Bounds USUAL = new Bounds(DUE, Bounds::usual);
    private static final int TRACE = 91327;

    public static void main(String[] args) {
        tell();
        show();
        kinds();
        as();
        trace();
        traceWraps();
        noFaultAhead();
        faultOfTheLatest();
        faultIsLeft();
        faultIsCleared();
        many();
        lastCall();
        DUE.end();
    }

    private static String left(int... numbers) {
        int trace = TRACE;
        for (int number : numbers) {
            trace = 31 * trace + number;
        }
        return String.valueOf(trace);
    }

    /** "UNKNOWN"; bodies leave their number in TRACE "as they begin". */
    private static void tell() {
        USUAL.range("tell of proof", 0, 1, Bounds.UNKNOWN, (x, p) -> x.tell(p, 0));
        USUAL.range("tell of line", 0, 6, Bounds.UNKNOWN, (x, l) -> x.tell(0, l));
        USUAL.range("tell of line", 0, 1, Bounds.UNKNOWN, (x, l) -> x.tell(1, l));
        USUAL.changes("a ground", 3, Bounds.OLD, x -> x.tell(0, 0), "trace", left(1));
        USUAL.changes("the last ground", 320, Bounds.OLD, x -> x.tell(0, 3), "trace", left(1));
        USUAL.changes("the first cut", 1 + 0 + 1, Bounds.OLD, x -> x.tell(0, 4), "trace", left(2, 1));
        USUAL.changes("the cut ahead of the end", 64 + 2 + 3, Bounds.OLD, x -> x.tell(0, 5), "trace", left(2, 1));
        USUAL.changes("the end", 0 + 4 + 5 + 0, Bounds.OLD, x -> x.tell(0, 6), "trace", left(3, 2, 1, 1));
        USUAL.changes("an end that is a ground", 2, Bounds.OLD, x -> x.tell(1, 1), "trace", left(1));
        // what a cut gives and what a ground gives, of an end that is not empty
        DUE.is("an end", Due.of("gaf;gAf;c0,1a").tell(0, 2), 32 + 0 + 1 + 32);
        DUE.is("the widest", Due.of("gABCDEF").tell(0, 0), 4032);
    }

    /** "SHOWN by a lent body (4): its number; those of kind 2 have their own (5): 90." */
    private static void show() {
        USUAL.range("show of proof", 0, 1, Bounds.UNKNOWN, (x, p) -> x.show(p, 0));
        USUAL.range("show of line", 0, 6, Bounds.UNKNOWN, (x, l) -> x.show(0, l));
        USUAL.range("show of line", 0, 1, Bounds.UNKNOWN, (x, l) -> x.show(1, l));
        for (int l = 0; l < 6; l++) {
            int shown = l;
            USUAL.changes("show(0, " + l + ")", l, Bounds.OLD, x -> x.show(0, shown), "trace", left(4));
        }
        USUAL.changes("the end", 90, Bounds.OLD, x -> x.show(0, 6), "trace", left(5));
        USUAL.changes("an end that is a ground", 1, Bounds.OLD, x -> x.show(1, 1), "trace", left(4));
    }

    /** The last of all lines is the end; what was one in a proof of before is a cut like others. */
    private static void kinds() {
        ShortProofs x = Due.of("ga;gb;gc;gd;ge;gf;gab;gac;gad;gae;gaf;gbc;gbd;gbe;gA;c0,14a",
            "gf;gF;c0,1f", "gB;gbd;gBd;c1,2b;ga;gAE;c4,5a");
        DUE.is("heap", x.heap(0, 2), 3);
        DUE.is("lines", x.size(3, 0), 20);
        DUE.is("an end of before", x.line(3, 15, 1), 1);
        DUE.is("an end of before", x.as(3, 15, 2), -12);
        DUE.is("an end of before", x.show(3, 15), 15);
        DUE.is("the end", x.line(3, 19, 1), 2);
        DUE.is("the end", x.as(3, 19, 2), 1);
        DUE.is("the end", x.show(3, 19), 90);
        DUE.is("behind the end", x.show(3, 20), -1);
        DUE.is("behind the end", x.tell(3, 20), -1);
        DUE.is("behind the end", x.as(3, 20, 0), -1);
        DUE.is("heap", x.heap(3, 1), 4);
        DUE.is("the empty clause stands ahead: 16 lines", x.size(4, 0), 16);
        DUE.is("line 15 is the end again", x.line(4, 15, 1), 2);
    }

    /** "UNKNOWN; OUTSIDE; CAST: it is none (each is of kind 0, too; one of kind 2 is of kind 1)." */
    private static void as() {
        USUAL.clearingRange("as of proof", 0, 1, Bounds.UNKNOWN, (x, p) -> x.as(p, 0, 0));
        USUAL.clearingRange("as of line", 0, 6, Bounds.UNKNOWN, (x, l) -> x.as(0, l, 0));
        USUAL.clearingRange("as of line", 0, 1, Bounds.UNKNOWN, (x, l) -> x.as(1, l, 0));
        USUAL.clearingRange("as of kind", 0, 2, Bounds.OUTSIDE, (x, kind) -> x.as(0, 6, kind));
        USUAL.clearingRange("as of kind", 0, 2, Bounds.OUTSIDE, (x, kind) -> x.as(0, 0, kind));
        USUAL.clears("UNKNOWN ahead of OUTSIDE", -1, x -> x.as(2, 0, 3));
        USUAL.clears("UNKNOWN ahead of OUTSIDE", -1, x -> x.as(0, 7, 3));
        USUAL.clears("UNKNOWN ahead of CAST", -1, x -> x.as(0, -1, 2));
        USUAL.clears("OUTSIDE ahead of CAST", -2, x -> x.as(0, 0, 3));
        int[] kinds = {0, 0, 0, 0, 1, 1, 2};
        for (int l = 0; l < kinds.length; l++) {
            for (int kind = 0; kind < 3; kind++) {
                int taken = l;
                int as = kind;
                if (kind <= kinds[l]) {
                    USUAL.clears("as(0, " + l + ", " + kind + ")", 1, x -> x.as(0, taken, as));
                } else {
                    USUAL.faults("as(0, " + l + ", " + kind + ")", Bounds.CAST, x -> x.as(0, taken, as));
                }
            }
        }
        USUAL.faults("an end that is a ground", Bounds.CAST, x -> x.as(1, 1, 1));
        USUAL.faults("an end that is a ground", Bounds.CAST, x -> x.as(1, 1, 2));
        USUAL.clears("an end that is a ground", 1, x -> x.as(1, 1, 0));
    }

    /** "0 at first, becomes 31 times it and the number"; telling it changes nothing. */
    private static void trace() {
        DUE.is("0 at first", new ShortProofs().trace(), 0);
        USUAL.tells("trace()", TRACE, x -> x.trace());
        USUAL.tells("trace() again", 2 * TRACE, x -> x.trace() + x.trace());
        ShortProofs x = Due.of("ga");
        DUE.is("reading leaves nothing", x.trace(), 0);
        x.tell(0, 1);
        x.show(1, 0);
        DUE.is("a refused one leaves nothing", x.trace(), 0);
        x.tell(0, 0);
        DUE.is("1", x.trace(), 1);
        x.show(0, 0);
        DUE.is("31 and 4", x.trace(), 35);
    }

    /** "An int that wraps." */
    private static void traceWraps() {
        ShortProofs x = Due.of("ga");
        int[] due = {4, 128, 3972, 123136, 3817220, 118333824, -626618748, 2049655296};
        for (int k = 0; k < due.length; k++) {
            x.show(0, 0);
            DUE.is("the " + (k + 1) + "-th", x.trace(), due[k]);
        }
    }

    /** "0 ahead of any." */
    private static void noFaultAhead() {
        ShortProofs x = new ShortProofs();
        DUE.is("fault()", x.fault(), 0);
        x.lose(0);
        x.line(0, 0, 0);
        DUE.is("fault() behind calls that name none", x.fault(), 0);
    }

    /** "The FAULT of the latest call that names one", each of the four by each call that names it. */
    private static void faultOfTheLatest() {
        USUAL.faults("text: NULL", 1, x -> x.text(3, 0, 0, 0));
        USUAL.faults("text: CAST", 2, x -> x.text(0, 1, 0, 0));
        USUAL.faults("text: INDEX", 3, x -> x.text(0, 0, 0, 4));
        USUAL.faults("text: SIZE", 4, x -> x.text(0, 0, 0, -1));
        USUAL.faults("sheet: SIZE", 4, x -> x.sheet(0, 0, -1));
        USUAL.faults("put: NULL", 1, x -> x.put(3, 0, 0));
        USUAL.faults("put: INDEX", 3, x -> x.put(0, 3, 0));
        USUAL.losesBy("cell: NULL", 1, x -> x.cell(3, 0, 0));
        USUAL.losesBy("cell: CAST", 2, x -> x.cell(0, 0, 1));
        USUAL.losesBy("cell: INDEX", 3, x -> x.cell(0, 3, 0));
        USUAL.faults("copy: NULL", 1, x -> x.copy(0, 0, 3, 0, 0));
        USUAL.faults("copy: CAST", 2, x -> x.copy(0, 0, 1, 0, 0));
        USUAL.faults("copy: INDEX", 3, x -> x.copy(0, 0, 0, 0, 4));
        USUAL.faults("as: CAST", 2, x -> x.as(0, 0, 1));
        USUAL.changes("fault() tells it again", 8, Bounds.OLD, x -> x.fault() + x.fault());
        USUAL.changes("the latest of two", 3, 3, x -> x.as(0, 0, 1) == -12 && x.put(0, 3, 0) == -13 ? x.fault() : 0);
        USUAL.changes("the latest of two", 2, 2, x -> x.put(0, 3, 0) == -13 && x.as(0, 0, 1) == -12 ? x.fault() : 0);
    }

    /** Calls that name no FAULTS leave it, answered and refused. */
    private static void faultIsLeft() {
        Bounds.Call[] answered = {
            x -> x.line(0, 0, 0), x -> x.size(0, 0), x -> x.rests(0), x -> x.truly(0), x -> x.fewest(0, 0),
            x -> x.shorter(0, 0), x -> x.safe(0, 0), x -> x.twice(0), x -> x.heap(0, 1), x -> x.shared(0, 0),
            x -> x.core(0, 0, 0), x -> x.middle(0, 0, 0), x -> x.truths(0, 0, 0), x -> x.cuts(0, 0),
            x -> x.units(0, 0), x -> x.follows(0, 0), x -> x.cut(1, 64, 0), x -> x.stronger(0, 0), x -> x.lose(0),
            x -> x.lose(3), x -> x.tell(0, 0), x -> x.show(0, 0), x -> x.trace(), x -> x.many(0),
        };
        Bounds.Call[] refused = {
            x -> x.line(2, 0, 0), x -> x.size(0, 6), x -> x.rests(2), x -> x.truly(2), x -> x.fewest(0, 12),
            x -> x.shorter(0, 5), x -> x.safe(0, 7), x -> x.twice(2), x -> x.heap(0, 2), x -> x.shared(2, 0),
            x -> x.core(0, 4, 0), x -> x.middle(1, 0, 0), x -> x.truths(0, 0, 2), x -> x.cuts(0, 8),
            x -> x.units(0, 65), x -> x.follows(0, 65), x -> x.cut(1, 64, 6), x -> x.stronger(65, 0),
            x -> x.lose(4), x -> x.tell(0, 7), x -> x.show(2, 0), x -> x.many(2),
        };
        for (int k = 0; k < answered.length; k++) {
            ShortProofs x = Bounds.usual();
            x.as(0, 0, 1);
            DUE.holds("answered call " + k, answered[k].on(x) >= 0);
            DUE.is("fault() behind answered call " + k, x.fault(), 2);
        }
        for (int k = 0; k < refused.length; k++) {
            ShortProofs x = Bounds.usual();
            x.as(0, 0, 1);
            DUE.holds("refused call " + k, refused[k].on(x) < 0);
            DUE.is("fault() behind refused call " + k, x.fault(), 2);
        }
    }

    /** "0: it came to none, or was refused": each call that names FAULTS, answered and refused. */
    private static void faultIsCleared() {
        Bounds.Call[] calls = {
            x -> x.text(0, 0, 0, 1), x -> x.text(0, 0, 0, 0), x -> x.text(4, 0, 0, 0), x -> x.text(0, 3, 0, 0),
            x -> x.sheet(0, 0, 1), x -> x.sheet(4, 0, 1), x -> x.sheet(0, 3, 1), x -> x.sheet(0, 0, 61),
            x -> x.put(0, 0, 0), x -> x.put(4, 0, 0), x -> x.cell(0, 0, 0), x -> x.cell(4, 0, 0),
            x -> x.cell(0, 0, 3), x -> x.copy(0, 0, 0, 0, 1), x -> x.copy(4, 0, 0, 0, 1),
            x -> x.copy(0, 0, 4, 0, 1), x -> x.as(0, 0, 0), x -> x.as(2, 0, 0), x -> x.as(0, 7, 0),
            x -> x.as(0, 0, 3),
        };
        for (int k = 0; k < calls.length; k++) {
            ShortProofs x = Bounds.usual();
            x.as(0, 0, 1);
            calls[k].on(x);
            DUE.is("fault() behind call " + k, x.fault(), 0);
        }
        ShortProofs full = Bounds.full();
        Bounds.fill(full, 0, 0, 'g');
        full.as(0, 0, 1);
        DUE.is("FULL", full.text(0, 0, 0, 1), -4);
        DUE.is("fault() behind FULL", full.fault(), 0);
    }

    /** "How many: 0 PROOFS, 1 LINES of all together. OUTSIDE." */
    private static void many() {
        USUAL.range("many", 0, 1, Bounds.OUTSIDE, (x, what) -> x.many(what));
        USUAL.tells("proofs", 2, x -> x.many(0));
        USUAL.tells("lines", 9, x -> x.many(1));
        ShortProofs none = new ShortProofs();
        DUE.is("no proofs", none.many(0), 0);
        DUE.is("no lines", none.many(1), 0);
        ShortProofs x = Due.of("ga;gb;gc;gd;ge;gf;gA;gB;gC;gD;gE;gF;g;gab;gac;gad", "gbc;gbd;gbe;gbf;gcd;gce;gcf;gde");
        for (int p = 2; p < 12; p++) {
            DUE.is("heap", x.heap(0, 1), p);
        }
        DUE.is("twelve proofs", x.many(0), 12);
        DUE.is("the most lines", x.many(1), 16 + 8 + 10 * 24);
        DUE.is("a 13th", x.heap(0, 1), -4);
        DUE.is("twelve proofs", x.many(0), 12);
        DUE.is("the most lines", x.many(1), 16 + 8 + 10 * 24);
    }

    /** "An object is used for at most 512 calls": the last of them is as good as the first. */
    private static void lastCall() {
        ShortProofs x = new ShortProofs();
        x.sheet(0, 0, 2);
        x.put(0, 0, 'g');
        x.put(0, 1, 'a');
        x.text(0, 0, 0, 2);
        for (int calls = 5; calls <= 511; calls++) {
            DUE.is("call " + calls, x.rests(0), 1);
        }
        DUE.is("call 512", x.shorter(0, 0), 1);
    }
}
