/** Promises 8 to 12: shorter, safe, twice, heap, shared. */
public final class ShorterTest {
    private static final Due DUE = new Due("ShorterTest");

    public static void main(String[] args) {
        drop();
        join();
        stronger();
        cutOnce();
        unitsLast();
        noClause();
        refusals();
        safe();
        twice();
        heap();
        longHeaps();
        shared();
        DUE.end();
    }

    private static void shorter(int way, String text, String due) {
        ShortProofs x = Due.of(text);
        DUE.is("shorter(0, " + way + ") of " + text, x.shorter(0, way), 1);
        DUE.same("shorter(0, " + way + ") of " + text, Due.told(x, 1), due);
        DUE.same("the old one", Due.told(x, 0), Due.told(Due.of(text), 0));
        DUE.is("many(0)", x.many(0), 2);
        DUE.is("many(1)", x.many(1), x.size(0, 0) + x.size(1, 0));
    }

    private static void drop() {
        shorter(0, "ga", "ga");
        shorter(0, "ga;gb;gA;c0,2a", "ga;gA;c0,1a");
        shorter(0, "ga;gA;c0,1a;gb", "gb");
        shorter(0, "ga;ga;gab;gA;c1,3a", "ga;gA;c0,1a");
    }

    private static void join() {
        shorter(1, "ga;ga", "ga");
        shorter(1, "ga;ga;gA;c1,2a", "ga;gA;c0,1a");
        shorter(1, "ga;gab;gA;c1,2a", "gab;gA;c0,1a");
        // an idle line stands for a later one
        shorter(1, "ga;gAb;c0,1a;gb;gB;c3,4b", "ga;gAb;c0,1a;gB;c2,3b");
        shorter(1, "gb;ga;gAb;c1,2a;gB;c3,4b", "gb;gB;c0,1b");
    }

    private static void stronger() {
        shorter(2, "ga;ga", "ga");
        shorter(2, "ga;gb;gab", "ga");
        shorter(2, "gab;ga", "ga");
        // what stands for the left has not the letter; for the right not with not
        shorter(2, "gb;gab;gA;c1,2a;gB;c3,4b", "gb;gB;c0,1b");
        shorter(2, "gB;gAB;ga;c2,1a;gb;c4,3b", "gB;gb;c1,0b");
        // a cut stands for a later line; what is stronger goes through two cuts
        shorter(2, "gb;gab;gcd;gC;c2,3c;gad", "gcd;gC;c0,1c");
        shorter(2, "gd;gcd;gAb;gaC;c1,3c;c4,2a", "gd");
    }

    private static void cutOnce() {
        shorter(3, "gab;gAc;c0,1a;gaB;c2,3b;gA;c4,5a", "gab;gaB;c0,1b;gA;c2,3a");
        shorter(3, "gAb;gac;c1,0a;gAB;c2,3b;ga;c5,4a", "gAb;gAB;c0,1b;ga;c3,2a");
        shorter(3, "gaB;gA;c0,1a;gb;c3,0b;gAb;c4,5a;c6,2b", "gaB;gA;c0,1a;gb;c3,2b");
        shorter(3, "ga;gA;c0,1a", "ga;gA;c0,1a");
        // the same line twice stays
        shorter(3, "gab;gAb;c0,1a;gB;c2,3b", "gab;gAb;c0,1a;gB;c2,3b");
        // an idle cut is stood for by its left, so it never makes no clause
        shorter(3, "gab;gA;c0,1a;gb", "gb");
    }

    private static void unitsLast() {
        shorter(4, "gA;gab;gac;gBC;c1,0a;c2,0a;c5,3c;c4,6b", "gA;gab;gac;gBC;c2,3c;c1,4b;c5,0a");
        shorter(4, "ga;gAb;gAc;gBC;c0,1a;c0,2a;c5,3c;c4,6b", "ga;gAb;gAc;gBC;c2,3c;c1,4b;c0,5a");
        // the last unit first
        shorter(4, "ga;gb;gABc;gABC;c0,2a;c0,3a;c1,4b;c1,5b;c6,7c", "ga;gb;gABc;gABC;c2,3c;c1,4b;c0,5a");
        // one cut alone makes no unit; nor does a second one that is idle
        shorter(4, "ga;gAb;c0,1a;gB;c2,3b", "ga;gAb;c0,1a;gB;c2,3b");
        shorter(4, "ga;gAb;gAc;c0,2a;c0,1a;gB;c4,5b", "ga;gAb;c0,1a;gB;c2,3b");
        // the end is no unit
        shorter(4, "ga;gA;c0,1a;gb", "gb");
    }

    private static void noClause() {
        String[] texts = {
            "gcd;gCD;gBcD;c0,2d;gd;c3,1c;c4,5d;gbd;c7,6b", "gAb;ga;c1,0a;c1,0a;gAB;gaB;c3,4b;c2,5b;c7,6a",
            // idle lines are gone through, too
            "gb;gAb;gaB;c0,2b;c3,1a;gAB;c3,5a;c0,6b",
        };
        int[] ways = {3, 4, 4};
        for (int k = 0; k < texts.length; k++) {
            ShortProofs x = Due.of(texts[k]);
            DUE.is("shorter(0, " + ways[k] + ") of " + texts[k], x.shorter(0, ways[k]), -3);
            DUE.is("many(0)", x.many(0), 1);
            for (int p = 1; p < 12; p++) {
                DUE.is("another way", x.shorter(0, 0), p);
            }
            DUE.is("STATE is ahead of FULL", x.shorter(0, ways[k]), -3);
            DUE.is("FULL", x.shorter(0, 0), -4);
        }
    }

    private static void refusals() {
        ShortProofs x = Due.of("ga");
        DUE.is("shorter(1, 0)", x.shorter(1, 0), -1);
        DUE.is("shorter(-1, 9)", x.shorter(-1, 9), -1);
        DUE.is("shorter(0, 5)", x.shorter(0, 5), -2);
        DUE.is("shorter(0, -1)", x.shorter(0, -1), -2);
        for (int p = 1; p < 12; p++) {
            DUE.is("shorter(0, 0)", x.shorter(0, 0), p);
        }
        DUE.is("OUTSIDE is ahead of FULL", x.shorter(0, 5), -2);
        DUE.is("FULL", x.shorter(11, 0), -4);
        DUE.is("UNKNOWN", x.shorter(12, 0), -1);
        DUE.is("many(0)", x.many(0), 12);
    }

    private static void safeAre(String text, int... due) {
        ShortProofs x = Due.of(text);
        for (int l = 0; l < due.length; l++) {
            DUE.is("safe(0, " + l + ") of " + text, x.safe(0, l), due[l]);
        }
        DUE.is("safe of no line", x.safe(0, due.length), -1);
        DUE.is("safe of no line", x.safe(0, -1), -1);
        DUE.is("safe of no proof", x.safe(1, 0), -1);
        DUE.is("safe of no proof", x.safe(-1, 0), -1);
    }

    private static void safe() {
        safeAre("gab;gAc;c0,1a;gaB;c2,3b;gA;c4,5a", 7, 71, 7, 133, 5, 68, 4);
        // line 0 is left here and right there
        safeAre("gaB;gA;c0,1a;gb;c3,0b;gAb;c4,5a;c6,2b", 129, 192, 128, 3, 3, 66, 2, 0);
        safeAre("ga;gA;c0,1a;gbC", 4095, 4095, 4095, 258);
        // an idle cut tells nothing
        safeAre("ga;gA;gAb;c0,2a;c0,1a", 1, 64, 4095, 4095, 0);
    }

    private static void twice() {
        ShortProofs x = Due.of("ga;ga;gb;ga", "g;g", "gab;gba", "ga;gA", "gb;ga;gAb;c1,2a");
        int[] due = {2, 1, 1, 0, 1, -1};
        for (int p = 0; p < due.length; p++) {
            DUE.is("twice(" + p + ")", x.twice(p), due[p]);
        }
        DUE.is("twice(-1)", x.twice(-1), -1);
    }

    private static void heapIs(String first, String second, String due) {
        ShortProofs x = Due.of(first, second);
        DUE.is("heap of " + first + " and " + second, x.heap(0, 1), 2);
        DUE.same("heap of " + first + " and " + second, Due.told(x, 2), due);
    }

    private static void heap() {
        heapIs("ga;gA;c0,1a", "ga;gAb;c0,1a", "ga;gA;c0,1a;gAb;c0,3a");
        // idle ones stay, but for those behind the end
        heapIs("gab;gb;gc", "gd;gb", "gab;gb");
        heapIs("gab;gb;gc", "gd;ge", "gab;gb;gc;gd;ge");
        heapIs("ga;ga;gb", "gb;ga", "ga");
        ShortProofs x = Due.of("ga;gA;c0,1a", "gb;gB;c0,1b;gc");
        DUE.is("heap(1, 0)", x.heap(1, 0), 2);
        DUE.same("heap(1, 0)", Due.told(x, 2), "gb;gB;c0,1b");
        DUE.is("heap(0, 1)", x.heap(0, 1), 3);
        DUE.same("heap(0, 1)", Due.told(x, 3), "ga;gA;c0,1a;gb;gB;gc");
        DUE.is("an end ahead is no end", x.line(3, 2, 1), 1);
        DUE.is("heap(0, 0)", x.heap(0, 0), 4);
        DUE.same("heap(0, 0)", Due.told(x, 4), "ga;gA;c0,1a");
        DUE.is("heap(0, 5)", x.heap(0, 5), -1);
        DUE.is("heap(5, 0)", x.heap(5, 0), -1);
        DUE.is("heap(-1, -1)", x.heap(-1, -1), -1);
    }

    private static void longHeaps() {
        String sixteen = "ga;gb;gc;gd;ge;gf;gA;gB;gC;gD;gE;gF;g;gab;gac;gad";
        ShortProofs x = Due.of(sixteen, "gbc;gbd;gbe;gbf;gcd;gce;gcf;gde", "gbc;gbd;gbe;gbf;gcd;gce;gcf;gde;gdf",
            "gbc;gbd;gbe;gbf;gcd;gce;gcf;gde;gdf;gab");
        DUE.is("24 lines", x.heap(0, 1), 4);
        DUE.is("24 lines", x.size(4, 0), 24);
        DUE.is("25 lines", x.heap(0, 2), -3);
        DUE.is("the end is one of the first", x.heap(0, 3), 5);
        DUE.is("14 lines", x.size(5, 0), 14);
        DUE.is("24 and 9 more", x.heap(4, 2), -3);
        DUE.is("24 and the same", x.heap(4, 4), 6);
        DUE.is("24 lines", x.size(6, 0), 24);
        for (int p = 7; p < 12; p++) {
            DUE.is("heap(1, 1)", x.heap(1, 1), p);
        }
        DUE.is("STATE is ahead of FULL", x.heap(0, 2), -3);
        DUE.is("FULL", x.heap(0, 1), -4);
        DUE.is("text is FULL, too", Due.read(x, "g"), -4);
    }

    private static void shared() {
        ShortProofs x = Due.of("ga;ga;gb;gB;c2,3b", "gA;ga;ga;c1,0a;gc", "gd");
        DUE.is("shared(0, 1)", x.shared(0, 1), 2);
        DUE.is("shared(1, 0)", x.shared(1, 0), 2);
        DUE.is("shared(0, 0)", x.shared(0, 0), 4);
        DUE.is("shared(0, 2)", x.shared(0, 2), 0);
        DUE.is("shared(0, 3)", x.shared(0, 3), -1);
        DUE.is("shared(3, 0)", x.shared(3, 0), -1);
        DUE.is("shared(-1, 0)", x.shared(-1, 0), -1);
    }
}
