/** Promises 21 to 25: each boundary that they and the terms name, on both sides. */
public final class SheetBoundsTest {
    private static final Due DUE = new Due("SheetBoundsTest");
    private static final Bounds USUAL = new Bounds(DUE, Bounds::usual);
    /** Sheets 0 and 1 have rows of ints of three and of five cells, 2 an empty one, 3 nothing. */
    private static final Bounds ROWS = new Bounds(DUE, SheetBoundsTest::rows);
    private static final int[] FAR = {Bounds.LEAST, Bounds.LEAST + 1, Bounds.MOST - 1, Bounds.MOST};

    public static void main(String[] args) {
        sheet();
        sheetSizes();
        lose();
        put();
        cutToLane();
        cell();
        copyNumbers();
        copyIndexes();
        copyCells();
        longestRows();
        DUE.end();
    }

    private static ShortProofs rows() {
        ShortProofs x = new ShortProofs();
        Bounds.fill(x, 0, 2, 10, 11, 12);
        Bounds.fill(x, 1, 2, 20, 21, 22, 23, 24);
        x.sheet(2, 2, 0);
        return x;
    }

    /** "UNKNOWN; OUTSIDE: lane, n above 60; SIZE." */
    private static void sheet() {
        USUAL.clearingRange("sheet", 0, 3, Bounds.UNKNOWN, (x, k) -> x.sheet(k, 0, 1));
        USUAL.clearingRange("sheet's lane", 0, 2, Bounds.OUTSIDE, (x, lane) -> x.sheet(0, lane, 1));
        USUAL.clears("n 61", -2, x -> x.sheet(0, 0, 61));
        USUAL.clears("n far", -2, x -> x.sheet(0, 0, Bounds.MOST));
        USUAL.faults("n -1", Bounds.SIZE, x -> x.sheet(0, 0, -1));
        USUAL.faults("n far below 0", Bounds.SIZE, x -> x.sheet(0, 0, Bounds.LEAST));
        USUAL.clears("UNKNOWN ahead of OUTSIDE", -1, x -> x.sheet(4, 3, 61));
        USUAL.clears("UNKNOWN ahead of SIZE", -1, x -> x.sheet(-1, 0, -1));
        USUAL.clears("OUTSIDE ahead of SIZE", -2, x -> x.sheet(0, 3, -1));
        USUAL.clears("OUTSIDE ahead of SIZE", -2, x -> x.sheet(0, -1, Bounds.LEAST));
        // where there is nothing, nothing comes by what is refused
        USUAL.clears("n 61 for nothing", -2, x -> x.sheet(3, 0, 61));
        USUAL.faults("n -1 for nothing", Bounds.SIZE, x -> x.sheet(3, 0, -1));
    }

    private static String zeros(int lane, int n) {
        StringBuilder text = new StringBuilder("lane ").append(lane).append(':');
        for (int i = 0; i < n; i++) {
            text.append(" 0");
        }
        return text.toString();
    }

    /** "A row of 0 .. 60 numbers (0 at first) of a LANE": a new row, whatever was there. */
    private static void sheetSizes() {
        for (int lane = 0; lane < 3; lane++) {
            for (int n : new int[] {0, 1, 59, 60}) {
                for (int k = 0; k < 4; k++) {
                    int as = lane;
                    int sheet = k;
                    USUAL.changes("sheet(" + k + ", " + lane + ", " + n + ")", 1, 0, x -> x.sheet(sheet, as, n),
                        "sheet " + k, zeros(lane, n));
                }
            }
        }
        ShortProofs x = new ShortProofs();
        x.sheet(0, 2, 60);
        x.put(0, 0, 7);
        x.put(0, 59, 7);
        x.sheet(0, 2, 1);
        DUE.is("0 at first", x.cell(0, 0, 2), 0);
        DUE.is("it is short now", x.cell(0, 1, 2), Due.LOST);
        x.sheet(0, 2, 60);
        DUE.is("0 at first", x.cell(0, 59, 2), 0);
        x.put(0, 59, 7);
        x.lose(0);
        x.sheet(0, 2, 60);
        DUE.is("0 at first, behind lose", x.cell(0, 59, 2), 0);
    }

    /** "A SHEET has nothing: 1; 0: it had nothing. UNKNOWN." */
    private static void lose() {
        USUAL.range("lose", 0, 3, Bounds.UNKNOWN, (x, k) -> x.lose(k));
        for (int k = 0; k < 3; k++) {
            int sheet = k;
            USUAL.changes("lose(" + k + ")", 1, Bounds.OLD, x -> x.lose(sheet), "sheet " + k, "nothing");
        }
        USUAL.tells("lose(3)", 0, x -> x.lose(3));
        ROWS.changes("an empty row is no nothing", 1, Bounds.OLD, x -> x.lose(2), "sheet 2", "nothing");
        ROWS.changes("twice", 0, Bounds.OLD, x -> x.lose(0) - 1 + x.lose(0), "sheet 0", "nothing");
    }

    /** "UNKNOWN; NULL; INDEX." */
    private static void put() {
        USUAL.clearingRange("put to sheet", 0, 3, Bounds.UNKNOWN, (x, k) -> x.put(k, 0, 9));
        USUAL.faults("put to nothing", Bounds.NULL, x -> x.put(3, 0, 9));
        USUAL.faults("NULL ahead of INDEX", Bounds.NULL, x -> x.put(3, -1, 9));
        USUAL.clears("UNKNOWN ahead of INDEX", -1, x -> x.put(4, -1, 9));
        USUAL.changes("put(0, 0, 9)", 1, 0, x -> x.put(0, 0, 9), "sheet 0", "lane 0: 9 -2 3");
        USUAL.changes("put(0, 2, 9)", 1, 0, x -> x.put(0, 2, 9), "sheet 0", "lane 0: 1 -2 9");
        USUAL.changes("put(1, 3, 9)", 1, 0, x -> x.put(1, 3, 9), "sheet 1", "lane 1: 400 -5 6 9");
        USUAL.changes("put(2, 4, 9)", 1, 0, x -> x.put(2, 4, 9), "sheet 2", "lane 2: 100000 2 3 4 9");
        USUAL.clears("the same again", 1, x -> x.put(2, 4, 5));
        for (int k = 0; k < 3; k++) {
            int sheet = k;
            USUAL.faults("put -1", Bounds.INDEX, x -> x.put(sheet, -1, 9));
            USUAL.faults("put behind the last", Bounds.INDEX, x -> x.put(sheet, 3 + sheet, 9));
            for (int far : FAR) {
                USUAL.faults("put far", Bounds.INDEX, x -> x.put(sheet, far, 9));
            }
        }
        ROWS.faults("put to an empty row", Bounds.INDEX, x -> x.put(2, 0, 9));
    }

    /** "What comes to a cell of it is cut to its LANE": the last numbers that go in whole, and the first that wrap. */
    private static void cutToLane() {
        int[][] rows = {
            {0, 127, 127}, {0, 128, -128}, {0, -128, -128}, {0, -129, 127}, {0, 255, -1}, {0, 256, 0}, {0, -256, 0},
            {0, Bounds.MOST, -1}, {0, Bounds.LEAST, 0},
            {1, 32767, 32767}, {1, 32768, -32768}, {1, -32768, -32768}, {1, -32769, 32767}, {1, 65535, -1},
            {1, 65536, 0}, {1, 128, 128}, {1, Bounds.MOST, -1}, {1, Bounds.LEAST, 0},
            {2, Bounds.MOST, Bounds.MOST}, {2, Bounds.LEAST, Bounds.LEAST}, {2, 65536, 65536}, {2, -1, -1},
        };
        String[] others = {"-2 3", "-5 6 7", "2 3 4 5"};
        for (int[] row : rows) {
            int k = row[0];
            USUAL.changes("put " + row[1] + " to lane " + k, 1, 0, x -> x.put(k, 0, row[1]),
                "sheet " + k, "lane " + k + ": " + row[2] + " " + others[k]);
        }
    }

    /** "LOST: UNKNOWN, OUTSIDE: lane; FAULTS CAST (nothing is no CAST), NULL, INDEX." */
    private static void cell() {
        for (int k : new int[] {-1, 4, Bounds.LEAST, Bounds.MOST}) {
            USUAL.losesBy("cell of sheet " + k, 0, x -> x.cell(k, 0, 0));
        }
        for (int lane : new int[] {-1, 3, Bounds.LEAST, Bounds.MOST}) {
            USUAL.losesBy("cell by lane " + lane, 0, x -> x.cell(0, 0, lane));
        }
        long[] first = {1, 400, 100000};
        long[] last = {3, 7, 5};
        for (int k = 0; k < 3; k++) {
            int sheet = k;
            USUAL.clears("cell 0", first[k], x -> x.cell(sheet, 0, sheet));
            USUAL.clears("the last cell", last[k], x -> x.cell(sheet, 2 + sheet, sheet));
            USUAL.losesBy("cell -1", Bounds.INDEX, x -> x.cell(sheet, -1, sheet));
            USUAL.losesBy("behind the last cell", Bounds.INDEX, x -> x.cell(sheet, 3 + sheet, sheet));
            for (int far : FAR) {
                USUAL.losesBy("cell far", Bounds.INDEX, x -> x.cell(sheet, far, sheet));
            }
            USUAL.losesBy("CAST", Bounds.CAST, x -> x.cell(sheet, 0, (sheet + 1) % 3));
            USUAL.losesBy("CAST", Bounds.CAST, x -> x.cell(sheet, 0, (sheet + 2) % 3));
            USUAL.losesBy("CAST ahead of INDEX", Bounds.CAST, x -> x.cell(sheet, -1, (sheet + 1) % 3));
            USUAL.losesBy("nothing is no CAST", Bounds.NULL, x -> x.cell(3, 0, sheet));
            USUAL.losesBy("NULL ahead of INDEX", Bounds.NULL, x -> x.cell(3, -1, sheet));
        }
        USUAL.losesBy("UNKNOWN ahead of OUTSIDE", 0, x -> x.cell(4, -1, 3));
        USUAL.losesBy("OUTSIDE ahead of NULL", 0, x -> x.cell(3, -1, 3));
        USUAL.losesBy("OUTSIDE ahead of INDEX", 0, x -> x.cell(0, -1, -1));
        USUAL.losesBy("UNKNOWN ahead of INDEX", 0, x -> x.cell(-1, -1, 0));
        ROWS.losesBy("a cell of an empty row", Bounds.INDEX, x -> x.cell(2, 0, 2));
        ROWS.losesBy("an empty row as another lane", Bounds.CAST, x -> x.cell(2, 0, 1));
    }

    /** "UNKNOWN; FAULTS NULL (the first, the other), CAST (unlike LANES)." */
    private static void copyNumbers() {
        ROWS.clearingRange("copy from sheet", 0, 3, Bounds.UNKNOWN, (x, k) -> x.copy(k, 0, 0, 0, 0));
        ROWS.clearingRange("copy to sheet", 0, 3, Bounds.UNKNOWN, (x, k) -> x.copy(0, 0, k, 0, 0));
        ROWS.faults("from nothing", Bounds.NULL, x -> x.copy(3, 0, 0, 0, 0));
        ROWS.faults("to nothing", Bounds.NULL, x -> x.copy(0, 0, 3, 0, 0));
        ROWS.faults("from nothing to nothing", Bounds.NULL, x -> x.copy(3, 0, 3, 0, 0));
        ROWS.faults("NULL ahead of INDEX", Bounds.NULL, x -> x.copy(3, -1, 0, -1, -1));
        ROWS.faults("NULL ahead of INDEX", Bounds.NULL, x -> x.copy(0, -1, 3, -1, -1));
        ROWS.clears("UNKNOWN ahead of NULL", -1, x -> x.copy(3, 0, 4, 0, 0));
        ROWS.clears("UNKNOWN ahead of NULL", -1, x -> x.copy(-1, 0, 3, 0, 0));
        for (int k = 0; k < 3; k++) {
            for (int other = 0; other < 3; other++) {
                int from = k;
                int to = other;
                if (k != other) {
                    USUAL.faults("CAST", Bounds.CAST, x -> x.copy(from, 0, to, 0, 1));
                    USUAL.faults("CAST of none", Bounds.CAST, x -> x.copy(from, 0, to, 0, 0));
                    USUAL.faults("CAST ahead of INDEX", Bounds.CAST, x -> x.copy(from, -1, to, 99, -1));
                }
            }
        }
        USUAL.faults("NULL ahead of CAST", Bounds.NULL, x -> x.copy(3, 0, 1, 0, 1));
    }

    /** "INDEX: i, j, n below 0 or beyond" (three cells, five cells). */
    private static void copyIndexes() {
        int[][] beyond = {
            {-1, 0, 0}, {-1, 0, 1}, {4, 0, 0}, {3, 0, 1}, {2, 0, 2}, {1, 0, 3}, {0, 0, 4},
            {0, -1, 0}, {0, -1, 1}, {0, 6, 0}, {0, 5, 1}, {0, 4, 2}, {0, 3, 3},
            {0, 0, -1}, {1, 1, -1}, {3, 5, -1}, {4, 6, -1}, {-1, -1, 2},
        };
        for (int[] at : beyond) {
            ROWS.faults("copy " + at[0] + " " + at[1] + " " + at[2], Bounds.INDEX,
                x -> x.copy(0, at[0], 1, at[1], at[2]));
        }
        for (int far : FAR) {
            ROWS.faults("i far", Bounds.INDEX, x -> x.copy(0, far, 1, 0, 0));
            ROWS.faults("i far", Bounds.INDEX, x -> x.copy(0, far, 1, 0, 1));
            ROWS.faults("j far", Bounds.INDEX, x -> x.copy(0, 0, 1, far, 0));
            ROWS.faults("j far", Bounds.INDEX, x -> x.copy(0, 0, 1, far, 1));
            ROWS.faults("n far", Bounds.INDEX, x -> x.copy(0, 0, 1, 0, far));
            ROWS.faults("n far", Bounds.INDEX, x -> x.copy(0, 1, 1, 1, far));
            ROWS.faults("all far", Bounds.INDEX, x -> x.copy(0, far, 1, far, far));
        }
        ROWS.faults("one of an empty row", Bounds.INDEX, x -> x.copy(2, 0, 0, 0, 1));
        ROWS.faults("one to an empty row", Bounds.INDEX, x -> x.copy(0, 0, 2, 0, 1));
        ROWS.faults("none of an empty row from 1 on", Bounds.INDEX, x -> x.copy(2, 1, 0, 0, 0));
        ROWS.faults("none to an empty row from 1 on", Bounds.INDEX, x -> x.copy(0, 0, 2, 1, 0));
        ROWS.faults("the same one", Bounds.INDEX, x -> x.copy(0, 0, 0, 1, 3));
        ROWS.faults("the same one", Bounds.INDEX, x -> x.copy(0, 1, 0, 0, 3));
    }

    /** "n cells of a SHEET from i on go to another one (perhaps the same) from j on, as they were: n." */
    private static void copyCells() {
        ROWS.clears("none", 0, x -> x.copy(0, 0, 1, 0, 0));
        ROWS.clears("none behind the last ones", 0, x -> x.copy(0, 3, 1, 5, 0));
        ROWS.clears("none of an empty row", 0, x -> x.copy(2, 0, 2, 0, 0));
        ROWS.clears("all onto themselves", 3, x -> x.copy(0, 0, 0, 0, 3));
        ROWS.changes("the first", 1, 0, x -> x.copy(0, 0, 1, 0, 1), "sheet 1", "lane 2: 10 21 22 23 24");
        ROWS.changes("the last", 1, 0, x -> x.copy(0, 2, 1, 4, 1), "sheet 1", "lane 2: 20 21 22 23 12");
        ROWS.changes("all", 3, 0, x -> x.copy(0, 0, 1, 0, 3), "sheet 1", "lane 2: 10 11 12 23 24");
        ROWS.changes("all, to the end", 3, 0, x -> x.copy(0, 0, 1, 2, 3), "sheet 1", "lane 2: 20 21 10 11 12");
        ROWS.changes("from the end", 3, 0, x -> x.copy(1, 2, 0, 0, 3), "sheet 0", "lane 2: 22 23 24");
        ROWS.changes("up, as they were", 4, 0, x -> x.copy(1, 0, 1, 1, 4), "sheet 1", "lane 2: 20 20 21 22 23");
        ROWS.changes("down, as they were", 4, 0, x -> x.copy(1, 1, 1, 0, 4), "sheet 1", "lane 2: 21 22 23 24 24");
    }

    /** Sixty cells of each lane, with the least and the greatest numbers. */
    private static void longestRows() {
        long[] most = {127, 32767, Bounds.MOST};
        for (int lane = 0; lane < 3; lane++) {
            ShortProofs x = new ShortProofs();
            x.sheet(0, lane, 60);
            x.sheet(1, lane, 60);
            for (int i = 0; i < 60; i++) {
                x.put(0, i, (int) most[lane] - i % 2);
            }
            DUE.is("sixty cells", x.copy(0, 0, 1, 0, 60), 60);
            for (int i = 0; i < 60; i++) {
                DUE.is("cell " + i, x.cell(1, i, lane), most[lane] - i % 2);
            }
            DUE.is("up by one", x.copy(1, 0, 1, 1, 59), 59);
            DUE.is("up by one", x.copy(1, 0, 1, 1, 60), -13);
            DUE.is("the last", x.cell(1, 59, lane), most[lane]);
            DUE.is("the first", x.cell(1, 0, lane), most[lane]);
            DUE.is("behind the last", x.cell(1, 60, lane), Due.LOST);
            DUE.is("behind the last", x.put(1, 60, 0), -13);
        }
    }
}
