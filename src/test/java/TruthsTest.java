/** Promises 13 to 20: core, middle, truths, cuts, units, follows, cut, stronger. */
public final class TruthsTest {
    private static final Due DUE = new Due("TruthsTest");
    private static final String SQUARE = "gab;gaB;gAc;gAC;c0,1b;c2,3c;c4,5a";
    private static final String TEN = "ga;gA;gb;gB;gc;gC;gd;gD;ge;gE;c0,1a";
    private static final String ELEVEN = "ga;gA;gb;gB;gc;gC;gd;gD;ge;gE;gf;c0,1a";
    private static final long ALL = 0xFFFFFFFFL;

    public static void main(String[] args) {
        core();
        coreRefusals();
        middle();
        truths();
        tableRefusals();
        cuts();
        units();
        follows();
        clauseRefusals();
        cut();
        stronger();
        DUE.end();
    }

    private static void coreIs(String text, int least, int bare) {
        ShortProofs x = Due.of(text);
        for (int set = -1; set < 3; set++) {
            DUE.is(text + ": core 0", x.core(0, 0, set), least);
            DUE.is(text + ": core 1", x.core(0, 1, Integer.MIN_VALUE), bare);
        }
    }

    private static void core() {
        coreIs(SQUARE, 15, 1);
        coreIs(TEN, 3, 5);
        coreIs("ga;gb", -9, 0);
        coreIs("ga;gb;g;gB", 4, 2);
        // the least of the fewest as a number, not the first by its grounds
        coreIs("ga;gb;gB;gA", 6, 2);
        coreIs("gab;gA;gB;gc;gC", 24, 2);
        coreIs("ga;ga;gA;gA", 5, 4);
        ShortProofs x = Due.of("ga;gb;gB;gA");
        int[] cores = {0, 0, 0, 0, 0, 0, 1, 1, 0, 1, 0, 1, 0, 1, 1, 1};
        for (int set = 0; set < 16; set++) {
            DUE.is("core 2 of " + set, x.core(0, 2, set), cores[set]);
            DUE.is("core 3 of " + set, x.core(0, 3, set), set == 6 || set == 9 ? 1 : 0);
        }
        DUE.is("core 3 of an empty one", Due.of("g").core(0, 3, 1), 1);
        DUE.is("core 2 of all ten", Due.of(TEN).core(0, 2, 1023), 1);
        DUE.is("core 3 of all ten", Due.of(TEN).core(0, 3, 1023), 0);
        DUE.is("core 3 of the last two", Due.of(TEN).core(0, 3, 512 + 256), 1);
    }

    private static void coreRefusals() {
        ShortProofs x = Due.of("ga;gA", ELEVEN, TEN);
        DUE.is("UNKNOWN", x.core(3, 9, 0), -1);
        DUE.is("UNKNOWN", x.core(-1, 0, 0), -1);
        DUE.is("STATE is ahead of OUTSIDE", x.core(1, 9, -1), -3);
        DUE.is("STATE", x.core(1, 0, 0), -3);
        DUE.is("what", x.core(0, 4, 0), -2);
        DUE.is("what", x.core(0, -1, 0), -2);
        for (int what = 2; what < 4; what++) {
            DUE.is("set", x.core(0, what, -1), -2);
            DUE.is("set", x.core(0, what, 4), -2);
            DUE.is("set", x.core(2, what, 1024), -2);
            DUE.is("set", x.core(0, what, Integer.MIN_VALUE), -2);
        }
    }

    private static void middleIs(String text, int part, long without, long with) {
        ShortProofs x = Due.of(text);
        DUE.is(text + ": middle of " + part + " without f", x.middle(0, part, 0), without);
        DUE.is(text + ": middle of " + part + " with f", x.middle(0, part, 1), with);
    }

    private static void middle() {
        middleIs(SQUARE, 0, ALL, ALL);
        middleIs(SQUARE, 3, 0xAAAAAAAAL, 0xAAAAAAAAL);
        middleIs(SQUARE, 7, 0xA0A0A0A0L, 0xA0A0A0A0L);
        middleIs(SQUARE, 15, 0, 0);
        middleIs(SQUARE, 12, 0x55555555L, 0x55555555L);
        middleIs("gf;gF;c0,1f", 1, 0, ALL);
        middleIs("gf;gF;c0,1f", 2, ALL, 0);
        middleIs("ge;gE;c0,1e", 1, 0xFFFF0000L, 0xFFFF0000L);
        middleIs("gd;gD;c0,1d", 2, 0x00FF00FFL, 0x00FF00FFL);
        middleIs("g", 0, ALL, ALL);
        middleIs("g", 1, 0, 0);
        // an idle ground counts where a letter is: without it c is in the part alone
        middleIs("gbc;gB;c0,1b;gC;c2,3c", 5, 0xCCCCCCCCL, 0xCCCCCCCCL);
        middleIs("gbc;gB;c0,1b;gC;gac;c2,3c", 5, 0x0C0C0C0CL, 0x0C0C0C0CL);
    }

    private static void truths() {
        ShortProofs x = Due.of("gaB;gF;gdc", "g;ga");
        DUE.is("of none", x.truths(0, 0, 0), ALL);
        DUE.is("aB", x.truths(0, 1, 0), 0xBBBBBBBBL);
        DUE.is("F without f", x.truths(0, 2, 0), ALL);
        DUE.is("F with f", x.truths(0, 2, 1), 0);
        DUE.is("aB and cd", x.truths(0, 5, 1), 0xBBB0BBB0L & 0xFFF0FFF0L);
        DUE.is("the empty one", x.truths(1, 1, 0), 0);
        DUE.is("a alone", x.truths(1, 2, 0), 0xAAAAAAAAL);
    }

    private static void tableRefusals() {
        ShortProofs x = Due.of(SQUARE, ELEVEN, "ga;gA", TEN);
        DUE.is("no proof", x.middle(4, 0, 0), Due.LOST);
        DUE.is("no proof", x.middle(-1, 0, 0), Due.LOST);
        DUE.is("half", x.middle(0, 0, 2), Due.LOST);
        DUE.is("half", x.middle(0, 0, -1), Due.LOST);
        DUE.is("eleven grounds", x.middle(1, 0, 0), Due.LOST);
        DUE.is("an end that is not empty", x.middle(2, 0, 0), Due.LOST);
        DUE.is("ten grounds", x.middle(3, 1023, 0), 0);
        DUE.is("part", x.middle(0, 16, 0), Due.LOST);
        DUE.is("part", x.middle(0, -1, 0), Due.LOST);
        DUE.is("no proof", x.truths(4, 0, 0), Due.LOST);
        DUE.is("no proof", x.truths(-1, 0, 0), Due.LOST);
        DUE.is("half", x.truths(0, 0, 2), Due.LOST);
        DUE.is("half", x.truths(0, 0, -1), Due.LOST);
        DUE.is("eleven grounds", x.truths(1, 0, 0), Due.LOST);
        DUE.is("any end", x.truths(2, 3, 0), 0);
        DUE.is("ten grounds", x.truths(3, 1, 1), 0xAAAAAAAAL);
        DUE.is("set", x.truths(0, 16, 0), Due.LOST);
        DUE.is("set", x.truths(0, -1, 0), Due.LOST);
        DUE.is("fault() is of other calls", x.fault(), 0);
    }

    private static void cutsAre(String text, String clause, int due) {
        DUE.is(text + ": cuts of " + clause, Due.of(text).cuts(0, Due.clause(clause)), due);
    }

    private static void cuts() {
        cutsAre("ga", "a", 0);
        cutsAre("ga", "ab", 0);
        cutsAre("g", "", 0);
        cutsAre("g", "aBc", 0);
        cutsAre("ga", "b", -9);
        cutsAre("ga;gA", "", 1);
        cutsAre("ga;gA", "b", 1);
        cutsAre("ga;gAb;gBc", "c", 2);
        cutsAre("ga;gAb;gBc;gC", "", 3);
        cutsAre(SQUARE, "", 3);
        // what a cut makes is used twice: three cuts for four
        cutsAre("gab;gaB;gAc;gAC", "", 3);
        cutsAre("gabc;gabC;gaBc;gaBC", "a", 3);
        cutsAre("gabc;gabC;gaBc;gaBC;gA", "", -9);
        // a cut of the proof is no ground
        cutsAre("ga;gA;c0,1a", "", 1);
        cutsAre("gab;gAb;gB", "", 2);
    }

    private static void unitsAre(String text, String clause, int due) {
        DUE.is(text + ": units of " + clause, Due.of(text).units(0, Due.clause(clause)), due);
    }

    private static void units() {
        unitsAre("ga", "a", 1);
        unitsAre("ga", "", 0);
        unitsAre("ga", "A", 0);
        unitsAre("g", "", 1);
        unitsAre("g", "f", 1);
        unitsAre("ga;gAb;gBc;gCd;gDe;gEf", "f", 1);
        unitsAre("gEf;gDe;gCd;gBc;gAb;ga", "f", 1);
        unitsAre("gEf;gDe;gCd;gBc;gAb;ga;gF", "", 1);
        unitsAre("gEf;gDe;gCd;gBc;gAb;ga", "", 0);
        // it follows, but not by units alone
        unitsAre(SQUARE, "", 0);
        unitsAre(SQUARE, "a", 1);
        unitsAre("gabc", "ab", 0);
        unitsAre("gabc", "abc", 1);
        unitsAre("ga;gA", "d", 1);
    }

    private static void followsIs(String text, String clause, int due) {
        DUE.is(text + ": follows of " + clause, Due.of(text).follows(0, Due.clause(clause)), due);
    }

    private static void follows() {
        followsIs("ga", "a", 1);
        followsIs("ga", "aF", 1);
        followsIs("ga", "A", 0);
        followsIs("ga", "", 0);
        followsIs("g", "", 1);
        followsIs(SQUARE, "", 1);
        followsIs(SQUARE, "F", 1);
        followsIs("gef;geF", "e", 1);
        followsIs("gef;geF", "f", 0);
        followsIs(ELEVEN, "", 1);
        // grounds that the end does not rest on count, too
        followsIs("ga;gAf;gb", "f", 1);
        followsIs("g;g;g;g;g;g;g;g;g;g;g;g;g;g;g;ga", "", 1);
        followsIs("ga;ga;ga;ga;ga;ga;ga;ga;ga;ga;ga;ga;ga;ga;ga;gA", "", 1);
    }

    private static void clauseRefusals() {
        ShortProofs x = Due.of("ga", "ga;gd", "gD");
        for (int clause : new int[] {-1, 65, 4096, 4095, Integer.MAX_VALUE, Integer.MIN_VALUE, 2048 + 32}) {
            DUE.is("cuts(0, " + clause + ")", x.cuts(0, clause), -2);
            DUE.is("units(0, " + clause + ")", x.units(0, clause), -2);
            DUE.is("follows(0, " + clause + ")", x.follows(0, clause), -2);
            DUE.is("cuts(1, " + clause + ")", x.cuts(1, clause), -2);
            DUE.is("cuts(3, " + clause + ")", x.cuts(3, clause), -1);
            DUE.is("units(3, " + clause + ")", x.units(3, clause), -1);
            DUE.is("follows(3, " + clause + ")", x.follows(3, clause), -1);
            DUE.is("cut(" + clause + ", 64, 0)", x.cut(clause, 64, 0), -2);
            DUE.is("cut(1, " + clause + ", 0)", x.cut(1, clause, 0), -2);
            DUE.is("stronger(" + clause + ", 0)", x.stronger(clause, 0), -2);
            DUE.is("stronger(0, " + clause + ")", x.stronger(0, clause), -2);
        }
        for (int clause : new int[] {8, 16, 32, 512, 1024, 2048, 9}) {
            DUE.is("cuts(0, " + clause + ")", x.cuts(0, clause), -2);
        }
        DUE.is("STATE", x.cuts(1, 1), -3);
        DUE.is("STATE", x.cuts(2, 1), -3);
        DUE.is("cuts(-1, 0)", x.cuts(-1, 0), -1);
        DUE.is("units(-1, 0)", x.units(-1, 0), -1);
        DUE.is("follows(-1, 0)", x.follows(-1, 0), -1);
    }

    private static void cut() {
        ShortProofs x = new ShortProofs();
        String[][] cuts = {
            {"a", "A", "a", ""}, {"ab", "Ac", "a", "bc"}, {"ab", "Ab", "a", "b"}, {"fE", "Fa", "f", "aE"},
            {"abcdef", "Abcdef", "a", "bcdef"},
        };
        for (String[] row : cuts) {
            int letter = row[2].charAt(0) - 'a';
            DUE.is("cut of " + row[0] + " and " + row[1],
                x.cut(Due.clause(row[0]), Due.clause(row[1]), letter), Due.clause(row[3]));
            DUE.is("cut of " + row[1] + " and " + row[0],
                x.cut(Due.clause(row[1]), Due.clause(row[0]), letter), -9);
        }
        DUE.is("b is there both ways", x.cut(Due.clause("ab"), Due.clause("AB"), 0), -9);
        DUE.is("by another letter", x.cut(Due.clause("a"), Due.clause("A"), 1), -9);
        DUE.is("the right has it not", x.cut(1, 0, 0), -9);
        DUE.is("the left has it not", x.cut(0, 64, 0), -9);
        DUE.is("letter -1", x.cut(1, 64, -1), -2);
        DUE.is("letter 6", x.cut(1, 64, 6), -2);
        DUE.is("letter 32", x.cut(1, 64, 32), -2);
    }

    private static void stronger() {
        ShortProofs x = new ShortProofs();
        DUE.is("the same", x.stronger(5, 5), 1);
        DUE.is("the empty one", x.stronger(0, 0), 1);
        DUE.is("part", x.stronger(Due.clause("aF"), Due.clause("abF")), 1);
        DUE.is("no part", x.stronger(Due.clause("abF"), Due.clause("aF")), 0);
        DUE.is("other signs", x.stronger(Due.clause("A"), Due.clause("a")), 0);
        DUE.is("other letters", x.stronger(Due.clause("A"), Due.clause("B")), 0);
    }
}
