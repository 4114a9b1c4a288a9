import java.util.Map;
import java.util.TreeMap;

/** All that can be seen of an object but fault(), part by part, by calls that change nothing else. */
final class Seen {
    static Map<String, String> all(ShortProofs x) {
        Map<String, String> parts = new TreeMap<>();
        parts.put("trace", "" + x.trace());
        parts.put("proofs", "" + x.many(0));
        parts.put("lines", "" + x.many(1));
        for (int p = 0; p < x.many(0); p++) {
            parts.put("proof " + p, Due.told(x, p));
        }
        for (int k = 0; k < 4; k++) {
            parts.put("sheet " + k, sheet(x, k));
        }
        return parts;
    }

    /** A sheet as its lane and its cells, "lane 1: 7 -8", or "nothing". */
    static String sheet(ShortProofs x, int k) {
        for (int lane = 0; lane < 3; lane++) {
            long first = x.cell(k, 0, lane);
            int fault = x.fault();
            if (fault == 1) {
                return "nothing";
            }
            if (fault != 2) {
                return "lane " + lane + ":" + cells(x, k, lane, first);
            }
        }
        return "no lane";
    }

    private static String cells(ShortProofs x, int k, int lane, long first) {
        StringBuilder text = new StringBuilder();
        long cell = first;
        for (int i = 1; i <= 61 && cell != Due.LOST; i++) {
            text.append(' ').append(cell);
            cell = x.cell(k, i, lane);
        }
        return text.toString();
    }
}
