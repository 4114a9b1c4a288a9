/** Promises 21 to 25 and 30: sheet, lose, put, cell, copy, fault. */
public final class SheetsTest {
    private static final Due DUE = new Due("SheetsTest");
    private static final int MOST = Integer.MAX_VALUE, LEAST = Integer.MIN_VALUE;

    public static void main(String[] args) {
        sheet();
        lose();
        put();
        cell();
        copy();
        copyFaults();
        latestFault();
        DUE.end();
    }

    private static void faults(ShortProofs x, String call, long got, long due, int fault) {
        DUE.is(call, got, due);
        DUE.is("fault() behind " + call, x.fault(), fault);
    }

    private static void sheet() {
        ShortProofs x = new ShortProofs();
        for (int k = 0; k < 4; k++) {
            faults(x, "sheet", x.sheet(k, k % 3, 15 * k), 1, 0);
        }
        faults(x, "no such sheet", x.sheet(4, 9, -1), -1, 0);
        faults(x, "no such sheet", x.sheet(-1, 0, 0), -1, 0);
        faults(x, "lane", x.sheet(0, 3, -1), -2, 0);
        faults(x, "lane", x.sheet(0, -1, 0), -2, 0);
        faults(x, "too long", x.sheet(0, 0, 61), -2, 0);
        faults(x, "too long", x.sheet(0, 0, MOST), -2, 0);
        faults(x, "below 0", x.sheet(0, 0, -1), -14, 4);
        faults(x, "below 0", x.sheet(0, 0, LEAST), -14, 4);
        faults(x, "sixty", x.sheet(0, 2, 60), 1, 0);
        faults(x, "put", x.put(0, 59, 7), 1, 0);
        faults(x, "a refused one changes nothing", x.sheet(0, 0, 61), -2, 0);
        faults(x, "a fault changes nothing", x.sheet(0, 0, -1), -14, 4);
        faults(x, "it is there", x.cell(0, 59, 2), 7, 0);
        faults(x, "a new row", x.sheet(0, 2, 60), 1, 0);
        faults(x, "0 at first", x.cell(0, 59, 2), 0, 0);
        faults(x, "an empty row is no nothing", x.sheet(0, 1, 0), 1, 0);
        faults(x, "no cell", x.put(0, 0, 1), -13, 3);
        faults(x, "lose", x.lose(0), 1, 3);
    }

    private static void lose() {
        ShortProofs x = new ShortProofs();
        DUE.is("lose", x.lose(0), 0);
        x.sheet(0, 0, 5);
        x.sheet(1, 0, 5);
        DUE.is("lose", x.lose(0), 1);
        DUE.is("lose", x.lose(0), 0);
        DUE.is("another one stays", x.cell(1, 4, 0), 0);
        DUE.is("lose(4)", x.lose(4), -1);
        DUE.is("lose(-1)", x.lose(-1), -1);
        faults(x, "put to nothing", x.put(0, 0, 1), -11, 1);
        DUE.is("lose", x.lose(1), 1);
        DUE.is("lose names no fault", x.fault(), 1);
        x.sheet(0, 2, 5);
        DUE.is("a row again", x.cell(0, 0, 2), 0);
    }

    private static void put() {
        ShortProofs x = new ShortProofs();
        int[] values = {0, 127, 128, 255, 256, -1, -128, -129, 32767, 32768, -32768, -32769, 65535, MOST, LEAST};
        for (int lane = 0; lane < 3; lane++) {
            x.sheet(lane, lane, 15);
            for (int i = 0; i < values.length; i++) {
                int due = lane == 0 ? (byte) values[i] : lane == 1 ? (short) values[i] : values[i];
                faults(x, "put", x.put(lane, i, values[i]), 1, 0);
                faults(x, "lane " + lane + ": " + values[i], x.cell(lane, i, lane), due, 0);
            }
            faults(x, "behind the last", x.put(lane, 15, 1), -13, 3);
            faults(x, "put(-1)", x.put(lane, -1, 1), -13, 3);
            faults(x, "far", x.put(lane, MOST, 1), -13, 3);
            faults(x, "far", x.put(lane, LEAST, 1), -13, 3);
        }
        faults(x, "nothing", x.put(3, -1, 1), -11, 1);
        faults(x, "no such sheet", x.put(4, 0, 1), -1, 0);
        faults(x, "no such sheet", x.put(-1, 0, 1), -1, 0);
    }

    private static void cell() {
        ShortProofs x = new ShortProofs();
        x.sheet(0, 0, 3);
        x.sheet(1, 1, 3);
        x.sheet(2, 2, 3);
        for (int k = 0; k < 3; k++) {
            x.put(k, 2, 77 + k);
            for (int lane = 0; lane < 3; lane++) {
                faults(x, "cell", x.cell(k, 2, lane), k == lane ? 77 + k : Due.LOST, k == lane ? 0 : 2);
            }
            faults(x, "lane", x.cell(k, 9, 3), Due.LOST, 0);
            faults(x, "cell -1", x.cell(k, -1, k), Due.LOST, 3);
            faults(x, "lane", x.cell(k, 0, -1), Due.LOST, 0);
            faults(x, "cell 3", x.cell(k, 3, k), Due.LOST, 3);
            faults(x, "CAST is ahead of INDEX", x.cell(k, 3, (k + 1) % 3), Due.LOST, 2);
            faults(x, "no such sheet", x.cell(4, 0, 0), Due.LOST, 0);
        }
        faults(x, "nothing is no CAST", x.cell(3, -1, 1), Due.LOST, 1);
        faults(x, "no such sheet", x.cell(-1, 0, 7), Due.LOST, 0);
    }

    private static void row(ShortProofs x, int k, int lane, int... due) {
        for (int i = 0; i < due.length; i++) {
            DUE.is("cell(" + k + ", " + i + ", " + lane + ")", x.cell(k, i, lane), due[i]);
        }
        DUE.is("no more cells", x.cell(k, due.length, lane), Due.LOST);
    }

    private static void fill(ShortProofs x, int k, int lane, int... values) {
        x.sheet(k, lane, values.length);
        for (int i = 0; i < values.length; i++) {
            x.put(k, i, values[i]);
        }
    }

    private static void copy() {
        for (int lane = 0; lane < 3; lane++) {
            ShortProofs x = new ShortProofs();
            fill(x, 0, lane, 1, 2, 3, 4, 5);
            fill(x, 1, lane, 9, 8, 7);
            faults(x, "copy", x.copy(0, 1, 1, 0, 2), 2, 0);
            row(x, 1, lane, 2, 3, 7);
            row(x, 0, lane, 1, 2, 3, 4, 5);
            // over one another, as they were
            faults(x, "copy", x.copy(0, 0, 0, 1, 4), 4, 0);
            row(x, 0, lane, 1, 1, 2, 3, 4);
            faults(x, "copy", x.copy(0, 2, 0, 0, 3), 3, 0);
            row(x, 0, lane, 2, 3, 4, 3, 4);
            faults(x, "none", x.copy(0, 5, 1, 3, 0), 0, 0);
            faults(x, "all", x.copy(1, 0, 0, 2, 3), 3, 0);
            row(x, 0, lane, 2, 3, 2, 3, 7);
        }
    }

    private static void copyFaults() {
        ShortProofs x = new ShortProofs();
        fill(x, 0, 2, 1, 2, 3);
        fill(x, 1, 2, 4, 5, 6, 7);
        x.sheet(2, 1, 3);
        faults(x, "UNKNOWN", x.copy(4, -1, 3, -1, -1), -1, 0);
        faults(x, "UNKNOWN", x.copy(3, -1, 4, -1, -1), -1, 0);
        faults(x, "UNKNOWN", x.copy(-1, 0, 0, 0, 0), -1, 0);
        faults(x, "UNKNOWN", x.copy(0, 0, -1, 0, 0), -1, 0);
        faults(x, "NULL", x.copy(3, -1, 0, 0, 0), -11, 1);
        faults(x, "NULL", x.copy(2, -1, 3, 0, 0), -11, 1);
        faults(x, "NULL", x.copy(3, 0, 3, 0, 0), -11, 1);
        faults(x, "CAST is ahead of INDEX", x.copy(0, -1, 2, 0, 1), -12, 2);
        faults(x, "CAST", x.copy(2, 0, 0, 0, 0), -12, 2);
        int[][] indexes = {
            {-1, 0, 1}, {0, -1, 1}, {0, 0, -1}, {-1, 0, 0}, {4, 0, 0}, {0, 5, 0}, {3, 0, 1}, {0, 4, 1}, {0, 0, 4},
            {1, 0, 3}, {0, 2, 3}, {MOST, 0, 1}, {0, MOST, 1}, {0, 0, MOST}, {MOST, MOST, MOST}, {0, 0, LEAST},
            {LEAST, LEAST, LEAST}, {1, 1, MOST},
        };
        for (int[] at : indexes) {
            faults(x, "INDEX " + at[0] + " " + at[1] + " " + at[2], x.copy(0, at[0], 1, at[1], at[2]), -13, 3);
        }
        row(x, 0, 2, 1, 2, 3);
        row(x, 1, 2, 4, 5, 6, 7);
    }

    private static void latestFault() {
        ShortProofs x = Due.of("ga");
        DUE.is("fault()", x.fault(), 0);
        faults(x, "as", x.as(0, 0, 1), -12, 2);
        // these name no faults
        x.line(9, 9, 9);
        x.size(9, 9);
        x.rests(0);
        x.truly(9);
        x.fewest(0, 99);
        x.shorter(0, 9);
        x.safe(0, 9);
        x.twice(9);
        x.heap(9, 9);
        x.shared(9, 9);
        x.core(0, 9, 9);
        x.middle(0, 0, 0);
        x.truths(0, 0, 9);
        x.cuts(0, -1);
        x.units(0, 1);
        x.follows(0, -1);
        x.cut(-1, 0, 0);
        x.stronger(-1, 0);
        x.lose(0);
        x.tell(9, 9);
        x.show(0, 0);
        x.trace();
        x.many(9);
        DUE.is("fault() is still there", x.fault(), 2);
        DUE.is("fault() tells it again", x.fault(), 2);
        faults(x, "as", x.as(0, 0, 0), 1, 0);
        faults(x, "text", x.text(0, 0, 0, 0), -11, 1);
        faults(x, "as", x.as(0, 1, 0), -1, 0);
    }
}
