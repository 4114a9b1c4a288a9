import java.util.List;

/**
 * Proofs made by lot whose ends rest on up to 24 lines, longer than a text can tell, against Slow's
 * answers: heaps of texts, each of which goes on from lines of the heap ahead of it.
 */
public final class HeapsAgainstSlowTest {
    private static final Due DUE = new Due("HeapsAgainstSlowTest");
    private static final int HEAPS = 3000, MOST_TEXTS = 4, MOST_LINES = 24;
    private static final Lots LOTS = new Lots(8);
    private static final Compare COMPARE = new Compare(DUE, LOTS);

    public static void main(String[] args) {
        for (int k = 0; k < HEAPS; k++) {
            int letters = 2 + LOTS.lot.nextInt(5);
            List<String> texts = Backward.texts(LOTS.lot, letters, 4 + LOTS.lot.nextInt(MOST_LINES));
            if (k % 3 == 0) {
                // lines that are mostly idle in the heap of all
                texts.add(0, LOTS.anyText(letters));
            }
            compare(texts, k % 8 == 0);
        }
        DUE.end();
    }

    private static void compare(List<String> texts, boolean withGrounds) {
        ShortProofs x = new ShortProofs();
        Slow heap = Slow.of(texts.get(0));
        int p = Due.read(x, texts.get(0));
        for (int k = 1; k < texts.size() && k < MOST_TEXTS; k++) {
            int q = Due.read(x, texts.get(k));
            Slow longer = COMPARE.heap(x, p, heap, q, Slow.of(texts.get(k)));
            if (longer == null) {
                break;
            }
            heap = longer;
            p = x.many(0) - 1;
        }
        COMPARE.proof(x, p, heap);
        COMPARE.ways(x, p, heap);
        if (withGrounds) {
            COMPARE.grounds(x, p, heap);
        }
    }
}
