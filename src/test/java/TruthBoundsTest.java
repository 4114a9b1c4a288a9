/** Promises 13 to 20: each boundary that they and the terms name, on both sides. */
public final class TruthBoundsTest {
    private static final Due DUE = new Due("TruthBoundsTest");
    private static final Bounds USUAL = new Bounds(DUE, Bounds::usual);
    private static final String TEN = "ga;gA;gb;gB;gc;gC;gd;gD;ge;gE;c0,1a";
    private static final String ELEVEN = "ga;gA;gb;gB;gc;gC;gd;gD;ge;gE;gf;c0,1a";
    private static final String NO_END = "ga;gb;gc;gd;ge;gf;gA;gB;gC;gD;gE";
    /** Proofs 0 to 4: ten grounds, eleven, eleven and no empty end, one empty ground, one that is not empty. */
    private static final Bounds GROUNDS = new Bounds(DUE, () -> Due.of(TEN, ELEVEN, NO_END, "g", "ga"));
    private static final long ALL = 0xFFFFFFFFL;

    public static void main(String[] args) {
        coreNumbers();
        coreSets();
        howManyGrounds();
        cores();
        middleNumbers();
        middleTables();
        middleOfTheLongest();
        truthsNumbers();
        truthsTables();
        eachOfTheTruths();
        clauseNumbers();
        smallClauses();
        cutsNumbers();
        howManyCuts();
        unitsAlone();
        followsAtAll();
        cutNumbers();
        cutsOfClauses();
        strongerNumbers();
        DUE.end();
    }

    /** "UNKNOWN; STATE: there are more than 10 GROUNDS; OUTSIDE: what." */
    private static void coreNumbers() {
        USUAL.range("core of proof", 0, 1, Bounds.UNKNOWN, (x, p) -> x.core(p, 0, 0));
        USUAL.range("core's what", 0, 3, Bounds.OUTSIDE, (x, what) -> x.core(0, what, 0));
        USUAL.tells("UNKNOWN ahead of OUTSIDE", -1, x -> x.core(2, 4, -1));
        GROUNDS.tells("UNKNOWN ahead of STATE", -1, x -> x.core(5, 4, -1));
        for (int what = -1; what <= 4; what++) {
            int asked = what;
            GROUNDS.tells("STATE ahead of OUTSIDE", -3, x -> x.core(1, asked, -1));
            GROUNDS.tells("STATE", -3, x -> x.core(2, asked, 0));
        }
    }

    /** "OUTSIDE: .. set (of what 2, 3; it is not looked at else)." */
    private static void coreSets() {
        for (int what = 2; what <= 3; what++) {
            int asked = what;
            USUAL.range("core's set of four", 0, 15, Bounds.OUTSIDE, (x, set) -> x.core(0, asked, set));
            USUAL.range("core's set of two", 0, 3, Bounds.OUTSIDE, (x, set) -> x.core(1, asked, set));
            GROUNDS.range("core's set of ten", 0, 1023, Bounds.OUTSIDE, (x, set) -> x.core(0, asked, set));
            GROUNDS.range("core's set of one", 0, 1, Bounds.OUTSIDE, (x, set) -> x.core(3, asked, set));
        }
        for (int set : new int[] {-1, 0, 15, 16, 1024, Bounds.LEAST, Bounds.MOST}) {
            USUAL.tells("core 0 with set " + set, 15, x -> x.core(0, 0, set));
            USUAL.tells("core 1 with set " + set, 1, x -> x.core(0, 1, set));
        }
    }

    /** "CORES of a PROOF with 10 GROUNDS at most": ten are taken, eleven are not. */
    private static void howManyGrounds() {
        GROUNDS.tells("ten: core 0", 3, x -> x.core(0, 0, 0));
        GROUNDS.tells("ten: core 1", 5, x -> x.core(0, 1, 0));
        GROUNDS.tells("ten: core 2", 1, x -> x.core(0, 2, 1023));
        GROUNDS.tells("ten: core 2", 0, x -> x.core(0, 2, 0x155));
        GROUNDS.tells("ten: core 3", 1, x -> x.core(0, 3, 768));
        GROUNDS.tells("ten: middle", ALL, x -> x.middle(0, 0, 0));
        GROUNDS.tells("ten: truths", 0xAAAAAAAAL, x -> x.truths(0, 1, 0));
        GROUNDS.tells("eleven: middle", Due.LOST, x -> x.middle(1, 0, 0));
        GROUNDS.tells("eleven: truths", Due.LOST, x -> x.truths(1, 0, 0));
        GROUNDS.tells("eleven: truths", Due.LOST, x -> x.truths(2, 0, 1));
        GROUNDS.tells("eleven: follows has no such bound", 1, x -> x.follows(1, 0));
        GROUNDS.tells("eleven: units has no such bound", 1, x -> x.units(1, 0));
    }

    private static void coreIs(String text, int least, int bare) {
        DUE.is(text + ": core 0", Due.of(text).core(0, 0, 0), least);
        DUE.is(text + ": core 1", Due.of(text).core(0, 1, 0), bare);
    }

    /** "NONE: there is none"; "with the fewest; of several the least as a number"; "none of which can be left out". */
    private static void cores() {
        coreIs("g", 1, 1);
        coreIs("ga", -9, 0);
        coreIs("g;g", 1, 2);
        coreIs("ga;g", 2, 1);
        coreIs("ga;gA", 3, 1);
        coreIs("ga;gb;gc;gd;ge;gf;gA", 65, 1);
        // fewest ahead of least as a number
        coreIs("gab;gA;gB;gf;gF", 24, 2);
        coreIs("gab;gA;gB;g", 8, 2);
        // of several with as few the least
        coreIs("gf;ga;gA;gF", 6, 2);
        coreIs("gf;ga;gF;gA", 5, 2);
        // all ten are in the one that there is
        coreIs("gabc;gabC;gaBc;gaBC;gAbc;gAbC;gABc;gABC;gd;ge", 255, 1);
        coreIs("gabcd;gabcD;gabC;gaB;gAef;gAeF;gAE", 127, 1);
        ShortProofs x = Due.of("ga;gA;ga", "g;ga", "ga");
        int[] cores = {0, 0, 0, 1, 0, 0, 1, 1};
        int[] bare = {0, 0, 0, 1, 0, 0, 1, 0};
        for (int set = 0; set < 8; set++) {
            DUE.is("core 2 of " + set, x.core(0, 2, set), cores[set]);
            DUE.is("core 3 of " + set, x.core(0, 3, set), bare[set]);
        }
        DUE.is("the empty set is none", x.core(1, 2, 0), 0);
        DUE.is("the empty set is none", x.core(1, 3, 0), 0);
        DUE.is("the empty clause alone", x.core(1, 3, 1), 1);
        DUE.is("the empty clause and more", x.core(1, 2, 3), 1);
        DUE.is("the empty clause and more", x.core(1, 3, 3), 0);
        DUE.is("no core at all", x.core(2, 2, 1), 0);
    }

    /** "LOST: UNKNOWN; OUTSIDE: half; STATE: its END is not empty, or ..; OUTSIDE: part." */
    private static void middleNumbers() {
        USUAL.range("middle of proof", 0, 0, Due.LOST, (x, p) -> x.middle(p, 0, 0));
        USUAL.range("middle's half", 0, 1, Due.LOST, (x, half) -> x.middle(0, 0, half));
        USUAL.range("middle's part of four", 0, 15, Due.LOST, (x, part) -> x.middle(0, part, 0));
        GROUNDS.range("middle's part of ten", 0, 1023, Due.LOST, (x, part) -> x.middle(0, part, 1));
        GROUNDS.range("middle's part of one", 0, 1, Due.LOST, (x, part) -> x.middle(3, part, 0));
        GROUNDS.tells("an end that is not empty", Due.LOST, x -> x.middle(4, 0, 0));
        USUAL.tells("an end that is not empty", Due.LOST, x -> x.middle(1, 0, 0));
        ShortProofs x = Due.of("ga;gA;c0,1a;gb", "gb;ga;gA;c1,2a");
        DUE.is("an empty line that is not the end", x.middle(0, 0, 0), Due.LOST);
        DUE.is("an empty end", x.middle(1, 0, 0), ALL);
    }

    private static void middleIs(String text, int part, long without, long with) {
        ShortProofs x = Due.of(text);
        DUE.is(text + ": middle of " + part + " without f", x.middle(0, part, 0), without);
        DUE.is(text + ": middle of " + part + " with f", x.middle(0, part, 1), with);
    }

    /** "Of a GROUND of the PART none, of another one all"; "just in", "just in others", "in both". */
    private static void middleTables() {
        middleIs("g", 0, ALL, ALL);
        middleIs("g", 1, 0, 0);
        String[] letters = {"a", "b", "c", "d", "e", "f"};
        long[] tables = {0xAAAAAAAAL, 0xCCCCCCCCL, 0xF0F0F0F0L, 0xFF00FF00L, 0xFFFF0000L};
        for (int k = 0; k < 6; k++) {
            String text = "g" + letters[k] + ";g" + letters[k].toUpperCase() + ";c0,1" + letters[k];
            long without = k < 5 ? tables[k] : 0;
            long with = k < 5 ? tables[k] : ALL;
            middleIs(text, 0, ALL, ALL);
            middleIs(text, 1, without, with);
            middleIs(text, 2, ALL & ~without, ALL & ~with);
            middleIs(text, 3, 0, 0);
        }
        // one letter is just in others, then just in the part, and another one is in both
        for (int k = 0; k < 30; k++) {
            String one = letters[k % 6];
            int both = (k + 1 + k / 6) % 6;
            String text = "g" + one + letters[both] + ";g" + letters[both].toUpperCase() + ";c0,1" + letters[both]
                + ";g" + one.toUpperCase() + ";c2,3" + one;
            long without = both < 5 ? tables[both] : 0;
            long with = both < 5 ? tables[both] : ALL;
            middleIs(text, 2, ALL & ~without, ALL & ~with);
            middleIs(text, 5, without, with);
            String mirrored = "g" + one.toUpperCase() + letters[both] + ";g" + letters[both].toUpperCase() + ";c0,1"
                + letters[both] + ";g" + one + ";c3,2" + one;
            middleIs(mirrored, 2, ALL & ~without, ALL & ~with);
            middleIs(mirrored, 5, without, with);
        }
        // what one part left behind is not met by the next
        ShortProofs x = Due.of("ga;gA;c0,1a");
        long[] due = {ALL, 0xAAAAAAAAL, 0x55555555L, 0};
        for (int k = 0; k < 12; k++) {
            DUE.is("part " + 5 * k % 4, x.middle(0, 5 * k % 4, k / 4 % 2), due[5 * k % 4]);
            DUE.is("part " + 3 * k % 4, x.middle(0, 3 * k % 4, k / 4 % 2), due[3 * k % 4]);
        }
        // b is just in the part, then in both, then just in others
        String text = "gab;gB;c0,1b;gA;c2,3a";
        middleIs(text, 3, 0xAAAAAAAAL, 0xAAAAAAAAL);
        middleIs(text, 1, 0xEEEEEEEEL, 0xEEEEEEEEL);
        middleIs(text, 4, 0x55555555L, 0x55555555L);
        middleIs(text, 5, 0xCCCCCCCCL, 0xCCCCCCCCL);
        // an idle ground has its letter, too
        middleIs("gbc;gB;c0,1b;gC;c2,3c", 5, 0xCCCCCCCCL, 0xCCCCCCCCL);
        middleIs("gbc;gB;c0,1b;gC;gac;c2,3c", 5, 0x0C0C0C0CL, 0x0C0C0C0CL);
        middleIs("gbc;gB;c0,1b;gC;c2,3c", 2, 0x33333333L, 0x33333333L);
        middleIs("gbc;gB;c0,1b;gC;gac;c2,3c", 10, 0xF3F3F3F3L, 0xF3F3F3F3L);
    }

    /** "24 at most": the end of 24 lines is had by cuts of all parts of them. */
    private static void middleOfTheLongest() {
        ShortProofs x = Due.of("gAb;gBc;c0,1b;gCd;c2,3c;gDe;c4,5d;gEf;c6,7e", "gCd;gDe;c0,1d;gEf;c2,3e",
            "ga;gAb;c0,1a;gBc;c2,3b;gCd;c4,5c;gDe;c6,7d;gEf;c8,9e",
            "gF;gEf;c1,0f;gDe;c3,2e;gCd;c5,4d;gBc;c7,6c;gAb;c9,8b", "ga;gA;c0,1a");
        int heap = 0;
        for (int p = 1; p < 5; p++) {
            heap = x.heap(heap, p);
        }
        DUE.is("lines", x.size(heap, 0), 24);
        DUE.is("grounds", x.size(heap, 5), 7);
        DUE.is("the end rests on the last cuts", x.rests(heap) >> 17, 127);
        int ofA = 1 << 5;
        for (int half = 0; half < 2; half++) {
            DUE.is("nothing is the part", x.middle(heap, 0, half), ALL);
            DUE.is("all are the part", x.middle(heap, 127, half), 0);
            DUE.is("a is the part", x.middle(heap, ofA, half), 0xAAAAAAAAL);
            DUE.is("all but a are the part", x.middle(heap, 127 - ofA, half), 0x55555555L);
            // by b, then by c: what is between goes from letter to letter
            DUE.is("a, Ab are the part", x.middle(heap, ofA + 1, half), 0xCCCCCCCCL);
            DUE.is("a, Ab, Bc are the part", x.middle(heap, ofA + 3, half), 0xF0F0F0F0L);
            DUE.is("F is the part", x.middle(heap, 64, half), half == 0 ? ALL : 0);
        }
        DUE.is("the first part that is refused", x.middle(heap, 128, 0), Due.LOST);
    }

    /** "LOST: as middle(), with any END." */
    private static void truthsNumbers() {
        USUAL.range("truths of proof", 0, 1, Due.LOST, (x, p) -> x.truths(p, 0, 0));
        USUAL.range("truths' half", 0, 1, Due.LOST, (x, half) -> x.truths(1, 0, half));
        USUAL.range("truths' set of four", 0, 15, Due.LOST, (x, set) -> x.truths(0, set, 0));
        USUAL.range("truths' set of two", 0, 3, Due.LOST, (x, set) -> x.truths(1, set, 1));
        GROUNDS.range("truths' set of ten", 0, 1023, Due.LOST, (x, set) -> x.truths(0, set, 0));
        GROUNDS.range("truths' set of one", 0, 1, Due.LOST, (x, set) -> x.truths(4, set, 0));
    }

    /** Bit m for set m of the letters 0 .. 4, without letter 5 and with it. */
    private static void truthsTables() {
        ShortProofs x = Due.of("ga;gb;gc;gd;ge;gf;gF", "gabcdef;gABCDEF", "gABCDE;gabcde", "g");
        long[] tables = {0xAAAAAAAAL, 0xCCCCCCCCL, 0xF0F0F0F0L, 0xFF00FF00L, 0xFFFF0000L};
        for (int k = 0; k < 5; k++) {
            DUE.is("letter " + k, x.truths(0, 1 << k, 0), tables[k]);
            DUE.is("letter " + k, x.truths(0, 1 << k, 1), tables[k]);
        }
        DUE.is("letter 5 without it", x.truths(0, 32, 0), 0);
        DUE.is("letter 5 with it", x.truths(0, 32, 1), ALL);
        DUE.is("not letter 5 without it", x.truths(0, 64, 0), ALL);
        DUE.is("not letter 5 with it", x.truths(0, 64, 1), 0);
        DUE.is("of none", x.truths(0, 0, 0), ALL);
        DUE.is("of none", x.truths(0, 0, 1), ALL);
        DUE.is("of all", x.truths(0, 127, 0), 0);
        DUE.is("five letters", x.truths(0, 31, 1), 1L << 31);
        DUE.is("wide ones: the first set is out", x.truths(1, 1, 0), ALL - 1);
        DUE.is("wide ones", x.truths(1, 1, 1), ALL);
        DUE.is("wide ones", x.truths(1, 2, 0), ALL);
        DUE.is("wide ones: the last set is out", x.truths(1, 2, 1), ALL >> 1);
        DUE.is("bit 31", x.truths(2, 1, 0), ALL >> 1);
        DUE.is("bit 0", x.truths(2, 2, 1), ALL - 1);
        DUE.is("the empty clause", x.truths(3, 1, 0), 0);
        DUE.is("the empty clause", x.truths(3, 0, 1), ALL);
    }

    /** "A table of 64 truths (bit m: with the LETTERS of set m true)": six grounds that leave just one of them. */
    private static void eachOfTheTruths() {
        for (int m = 0; m < 64; m++) {
            StringBuilder text = new StringBuilder();
            for (int letter = 0; letter < 6; letter++) {
                int sign = (m >> letter & 1) != 0 ? 1 << letter : 64 << letter;
                text.append(letter == 0 ? "g" : ";g").append(Due.signs(sign));
            }
            ShortProofs x = Due.of(text.toString(), text + ";g" + Due.signs((63 - m) | m << 6));
            int isTrue = m | (63 - m) << 6;
            DUE.is(text + ": truths", x.truths(0, 63, m / 32), 1L << m % 32);
            DUE.is(text + ": truths of the other half", x.truths(0, 63, 1 - m / 32), 0);
            DUE.is(text + ": no core", x.core(0, 0, 0), -9);
            DUE.is(text + ": none is bare", x.core(0, 1, 0), 0);
            DUE.is(text + ": all are none", x.core(0, 2, 63), 0);
            DUE.is(text + ": what is true follows", x.follows(0, isTrue), 1);
            DUE.is(text + ": what is not true does not", x.follows(0, (63 - m) | m << 6), 0);
            DUE.is(text + ": by units, too", x.units(0, isTrue), 1);
            // one more that is not true there: all seven are the one core
            DUE.is(text + " and one more: core", x.core(1, 0, 0), 127);
            DUE.is(text + " and one more: bare", x.core(1, 1, 0), 1);
            DUE.is(text + " and one more: truths", x.truths(1, 127, m / 32), 0);
            DUE.is(text + " and one more: all follow", x.follows(1, 0), 1);
        }
    }

    private static boolean isClause(int number) {
        return number >= 0 && number < 4096 && (number / 64 & number % 64) == 0;
    }

    /** "A CLAUSE is .. told as a number (0 .. 4095; 0 is the empty one)", "no LETTER in it both ways": all of them. */
    private static void clauseNumbers() {
        ShortProofs x = null;
        for (int number = -64; number < 4096 + 64; number++) {
            if (x == null || number % 50 == 0) {
                x = Due.of("g");
            }
            boolean is = isClause(number);
            DUE.is("units of " + number, x.units(0, number), is ? 1 : -2);
            DUE.is("follows of " + number, x.follows(0, number), is ? 1 : -2);
            DUE.is("stronger than " + number, x.stronger(0, number), is ? 1 : -2);
            DUE.is(number + " is stronger", x.stronger(number, 0), !is ? -2 : number == 0 ? 1 : 0);
            DUE.is("cut of " + number + " and none", x.cut(number, 0, 0), is ? -9 : -2);
            DUE.is("cut of none and " + number, x.cut(0, number, 5), is ? -9 : -2);
            boolean small = is && number % 64 < 8 && number / 64 < 8;
            DUE.is("cuts of " + number, x.cuts(0, number), small ? 0 : -2);
        }
        for (int far : new int[] {Bounds.LEAST, Bounds.MOST, 1 << 12, 1 << 16, 1 << 30, Bounds.LEAST + 1, -4096}) {
            USUAL.tells("units", -2, y -> y.units(0, far));
            USUAL.tells("follows", -2, y -> y.follows(0, far));
            USUAL.tells("cuts", -2, y -> y.cuts(0, far));
            USUAL.tells("cut", -2, y -> y.cut(far, 64, 0));
            USUAL.tells("cut", -2, y -> y.cut(1, far, 0));
            USUAL.tells("stronger", -2, y -> y.stronger(far, 0));
            USUAL.tells("stronger", -2, y -> y.stronger(0, far));
        }
    }

    /** "OUTSIDE: it is no CLAUSE of LETTERS 0 .. 2; STATE: a GROUND has another LETTER." */
    private static void smallClauses() {
        for (int letter = 0; letter < 6; letter++) {
            char small = (char) ('a' + letter);
            char capital = (char) ('A' + letter);
            Bounds made = new Bounds(DUE, () -> Due.of("ga;g" + small, "ga;g" + capital, "ga"));
            int plain = 1 << letter;
            int negated = 64 << letter;
            made.tells("a ground has " + small, letter < 3 ? 0 : -3, x -> x.cuts(0, 1));
            made.tells("a ground has " + capital, letter < 3 ? 0 : -3, x -> x.cuts(1, 1));
            made.tells("a clause of " + small, letter == 0 ? 0 : letter < 3 ? -9 : -2, x -> x.cuts(2, plain));
            made.tells("a clause of " + capital, letter < 3 ? -9 : -2, x -> x.cuts(2, negated));
        }
        Bounds made = new Bounds(DUE, () -> Due.of("gd", "ga;gb;gA;gd;c0,2a", "gad;gD;c0,1d"));
        made.tells("OUTSIDE ahead of STATE", -2, x -> x.cuts(0, 8));
        made.tells("OUTSIDE ahead of STATE", -2, x -> x.cuts(0, 65));
        made.tells("UNKNOWN ahead of OUTSIDE", -1, x -> x.cuts(3, 8));
        made.tells("a ground that is idle has another letter", -3, x -> x.cuts(1, 0));
        made.tells("a cut is no ground", -3, x -> x.cuts(2, 1));
    }

    /** "UNKNOWN." */
    private static void cutsNumbers() {
        USUAL.range("cuts of proof", 0, 1, Bounds.UNKNOWN, (x, p) -> x.cuts(p, 0));
        USUAL.range("units of proof", 0, 1, Bounds.UNKNOWN, (x, p) -> x.units(p, 0));
        USUAL.range("follows of proof", 0, 1, Bounds.UNKNOWN, (x, p) -> x.follows(p, 0));
        USUAL.tells("UNKNOWN ahead of OUTSIDE", -1, x -> x.units(2, 65));
        USUAL.tells("UNKNOWN ahead of OUTSIDE", -1, x -> x.follows(2, 65));
        USUAL.tells("cuts", 3, x -> x.cuts(0, 0));
        USUAL.tells("units", 0, x -> x.units(0, 0));
        USUAL.tells("follows", 1, x -> x.follows(0, 0));
    }

    private static void cutsAre(String text, String clause, int due) {
        DUE.is(text + ": cuts of " + clause, Due.of(text).cuts(0, Due.clause(clause)), due);
    }

    /** "0 .. 3"; "NONE: more than 3, or none at all"; "a CLAUSE, or a STRONGER one". */
    private static void howManyCuts() {
        String chain = "ga;gAb;gBc;gC";
        cutsAre(chain, "a", 0);
        cutsAre(chain, "b", 1);
        cutsAre(chain, "c", 2);
        cutsAre(chain, "", 1 + 2);
        cutsAre("gabc;gA;gB;gC", "", 3);
        // four are needed: the fourth is too many, but for a clause that three make
        cutsAre("gabc;gabC;gaB;gA;gAb", "", 3);
        cutsAre("gabc;gabC;gaBc;gaBC;gA", "", -9);
        cutsAre("gabc;gabC;gaBc;gaBC;gA", "a", 3);
        cutsAre("gab;gAc;gBc;gaC;gAC", "", -9);
        cutsAre("gab;gAc;gBc;gaC;gAC", "c", 2);
        cutsAre("gabc;gabC;gaBc;gaBC;gAbc;gAbC;gABc;gABC", "", -9);
        cutsAre("gabc;gabC;gaBc;gaBC;gAbc;gAbC;gABc;gABC", "ab", 1);
        // none at all
        cutsAre("gab;gaB", "b", -9);
        cutsAre("ga", "", -9);
        // a stronger one counts, a weaker one does not
        cutsAre("gab", "abC", 0);
        cutsAre("gab", "a", -9);
        cutsAre("ga;gA", "abc", 0);
        cutsAre("ga;gA", "B", 1);
        cutsAre("g", "", 0);
        // one cut for two that are used again
        cutsAre("gab;gaB;gAb;gAB", "", 3);
        // the same ground twice is no other one
        cutsAre("ga;ga;gA", "", 1);
    }

    private static void unitsAre(String text, String clause, int due) {
        DUE.is(text + ": units of " + clause, Due.of(text).units(0, Due.clause(clause)), due);
    }

    /** "As long as some GROUND has just one SIGN that is not known to be not true, and that is not known." */
    private static void unitsAlone() {
        unitsAre("g", "", 1);
        unitsAre("ga", "", 0);
        unitsAre("ga", "a", 1);
        unitsAre("ga", "A", 0);
        unitsAre("ga;gA", "", 1);
        unitsAre("gA;ga", "", 1);
        // two signs that are not known are one too many
        unitsAre("gab;gaB", "", 0);
        unitsAre("gab;gaB", "a", 1);
        unitsAre("gab;gaB;gAb;gAB", "", 0);
        // one that is known to be true is no news
        unitsAre("ga;gab", "", 0);
        unitsAre("ga;gab", "b", 0);
        // six letters one behind the other, told backwards
        unitsAre("gEf;gDe;gCd;gBc;gAb;ga;gF", "", 1);
        unitsAre("gEf;gDe;gCd;gBc;gAb;ga", "f", 1);
        unitsAre("gEF;gEf;gDe;gCd;gBc;gAb;ga", "", 1);
        unitsAre("gEF;gEf;gDe;gCd;gBc;gAb", "", 0);
        unitsAre("gEF;gDe;gCd;gBc;gAb;ga", "", 0);
        unitsAre("gAb;gBc;gBC", "A", 1);
        unitsAre("gBc;gBC", "A", 0);
        unitsAre("gEf;gDe;gCd;gBc;gAb", "Af", 1);
        unitsAre("gEf;gDe;gCd;gBc;gAb", "f", 0);
        unitsAre("gabcdef", "abcdef", 1);
        unitsAre("gabcdef", "abcde", 0);
        unitsAre("gABCDEF", "ABCDEF", 1);
        // grounds that are idle count, cuts do not
        unitsAre("ga;gA;gb", "", 1);
        unitsAre("gab;gaB;c0,1b;gAb;gAB", "", 0);
    }

    private static void followsIs(String text, String clause, int due) {
        DUE.is(text + ": follows of " + clause, Due.of(text).follows(0, Due.clause(clause)), due);
    }

    /** "Whether a CLAUSE is had from its GROUNDS at all (true where all of them are)." */
    private static void followsAtAll() {
        followsIs("g", "", 1);
        followsIs("ga", "", 0);
        followsIs("ga", "a", 1);
        followsIs("ga", "ab", 1);
        followsIs("gab", "a", 0);
        followsIs("gab;gaB;gAb;gAB", "", 1);
        followsIs("gab;gaB;gAb", "", 0);
        followsIs("gab;gaB;gAb", "b", 1);
        followsIs("gf;gF", "a", 1);
        followsIs("gabcdef", "abcdef", 1);
        followsIs("gabcdef", "abcde", 0);
        followsIs("gABCDEF", "ABCDEF", 1);
        followsIs("gABCDEF", "ABCDF", 0);
        // the sixteenth ground counts
        followsIs("ga;ga;ga;ga;ga;ga;ga;ga;ga;ga;ga;ga;ga;ga;ga;gb", "b", 1);
        followsIs("ga;ga;ga;ga;ga;ga;ga;ga;ga;ga;ga;ga;ga;ga;ga;ga", "b", 0);
        // and so does the 24th, of a heap
        ShortProofs x = Due.of("ga;gc;gd;ge;gf;gab;gac;gad;gae;gaf;gaB;gaC;gaD;gaE;gaF;gcd",
            "gce;gcf;gde;gdf;gef;gcB;gcA;gb");
        DUE.is("heap", x.heap(0, 1), 2);
        DUE.is("24 lines", x.size(2, 0), 24);
        DUE.is("b of the first alone", x.follows(0, 2), 0);
        DUE.is("b by the 24th", x.follows(2, 2), 1);
        DUE.is("b by units", x.units(2, 2), 1);
        DUE.is("a ground has another letter", x.cuts(2, 2), -3);
    }

    /** "OUTSIDE: they are no CLAUSES, letter"; "LETTERS 0 .. 5". */
    private static void cutNumbers() {
        USUAL.range("cut's letter", 0, 5, Bounds.OUTSIDE, (x, letter) -> x.cut(1, 64, letter));
        for (int letter : new int[] {-32, -6, 6, 7, 31, 32, 33, 64}) {
            USUAL.tells("letter " + letter, -2, x -> x.cut(1, 64, letter));
        }
        USUAL.tells("OUTSIDE ahead of NONE", -2, x -> x.cut(0, 0, 6));
        USUAL.tells("OUTSIDE ahead of NONE", -2, x -> x.cut(65, 0, 1));
        USUAL.tells("OUTSIDE ahead of NONE", -2, x -> x.cut(0, 65, 1));
    }

    /** "The LEFT has the LETTER, the RIGHT has it with NOT; the CUT has all other SIGNS of both, .. a CLAUSE." */
    private static void cutsOfClauses() {
        for (int k = 0; k < 6; k++) {
            int letter = k;
            USUAL.tells("letter " + k, 0, x -> x.cut(1 << letter, 64 << letter, letter));
            USUAL.tells("the wrong way round", -9, x -> x.cut(64 << letter, 1 << letter, letter));
            USUAL.tells("the left has it not", -9, x -> x.cut(0, 64 << letter, letter));
            USUAL.tells("the right has it not", -9, x -> x.cut(1 << letter, 0, letter));
            USUAL.tells("all others of both", 63 - (1 << letter),
                x -> x.cut(63, 63 - (1 << letter) | 64 << letter, letter));
            int other = (letter + 1) % 6;
            USUAL.tells("another letter both ways", -9,
                x -> x.cut(1 << letter | 1 << other, 64 << letter | 64 << other, letter));
            USUAL.tells("another letter both ways", -9,
                x -> x.cut(1 << letter | 64 << other, 64 << letter | 1 << other, letter));
        }
    }

    /** "If it is part of it (or the same)." */
    private static void strongerNumbers() {
        USUAL.tells("the empty one and itself", 1, x -> x.stronger(0, 0));
        USUAL.tells("the widest and itself", 1, x -> x.stronger(4032, 4032));
        USUAL.tells("one less", 1, x -> x.stronger(4032 - 64, 4032));
        USUAL.tells("one more", 0, x -> x.stronger(4032, 4032 - 64));
        USUAL.tells("one unlike", 0, x -> x.stronger(4032, 4032 - 64 + 1));
        USUAL.tells("no part either way", 0, x -> x.stronger(3, 5));
        USUAL.tells("OUTSIDE, though it is a part", -2, x -> x.stronger(65, 65));
    }
}
