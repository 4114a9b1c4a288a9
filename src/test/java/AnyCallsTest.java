import java.util.Random;

/** Calls by lot with near, far and foreign numbers: none throws, refused ones change nothing. */
public final class AnyCallsTest {
    private static final Due DUE = new Due("AnyCallsTest");
    private static final Lots LOTS = new Lots(31);
    private static final Random LOT = LOTS.lot;
    private static final int[] FAR = {
        Integer.MIN_VALUE, Integer.MAX_VALUE, -1, -2, -100, 31, 32, 33, 63, 64, 4095, 4096, 1023, 1024, 60, 61
    };

    public static void main(String[] args) {
        for (int run = 0; run < 1500; run++) {
            ShortProofs x = new ShortProofs();
            for (int calls = 0; calls < 512;) {
                if (LOT.nextInt(12) == 0) {
                    String text = LOTS.anyText(3 + LOT.nextInt(4));
                    Due.read(x, text);
                    calls += text.length() + 2;
                } else {
                    anyCall(x);
                    calls++;
                }
            }
            DUE.holds("no more than 12 proofs", x.many(0) <= 12);
            DUE.holds("no more than 24 lines each", x.many(1) <= 12 * 24);
        }
        DUE.end();
    }

    private static int any(int near) {
        return LOT.nextInt(8) == 0 ? FAR[LOT.nextInt(FAR.length)] : LOT.nextInt(near);
    }

    private static void anyCall(ShortProofs x) {
        int proofs = x.many(0);
        int lines = x.many(1);
        int trace = x.trace();
        long got;
        switch (LOT.nextInt(32)) {
            case 0: got = x.text(any(4), any(3), any(60), any(60)); break;
            case 1: got = x.line(any(12), any(24), any(5)); break;
            case 2: got = x.size(any(12), any(6)); break;
            case 3: got = x.rests(any(12)); break;
            case 4: got = x.truly(any(12)); break;
            case 5: got = x.fewest(any(12), any(12)); break;
            case 6: got = x.shorter(any(12), any(5)); break;
            case 7: got = x.safe(any(12), any(24)); break;
            case 8: got = x.twice(any(12)); break;
            case 9: got = x.heap(any(12), any(12)); break;
            case 10: got = x.shared(any(12), any(12)); break;
            case 11: got = x.core(any(12), any(4), any(64)); break;
            case 12: got = x.middle(any(12), any(64), any(2)); break;
            case 13: got = x.truths(any(12), any(64), any(2)); break;
            case 14: got = x.cuts(any(12), any(512)); break;
            case 15: got = x.units(any(12), any(4096)); break;
            case 16: got = x.follows(any(12), any(4096)); break;
            case 17: got = x.cut(any(4096), any(4096), any(6)); break;
            case 18: got = x.stronger(any(4096), any(4096)); break;
            case 19: got = x.sheet(any(4), any(3), any(61)); break;
            case 20: got = x.lose(any(4)); break;
            case 21: got = x.put(any(4), any(60), any(128)); break;
            case 22: got = x.cell(any(4), any(60), any(3)); break;
            case 23: got = x.copy(any(4), any(60), any(4), any(60), any(30)); break;
            case 24: got = x.tell(any(12), any(24)); break;
            case 25: got = x.show(any(12), any(24)); break;
            case 26: got = x.as(any(12), any(24), any(3)); break;
            case 27: got = x.trace(); break;
            case 28: got = x.fault(); break;
            default: got = x.many(any(2)); break;
        }
        if (got < 0 && trace == x.trace()) {
            DUE.is("a refused call makes no proof", x.many(0), proofs);
            DUE.is("a refused call makes no line", x.many(1), lines);
        }
    }
}
