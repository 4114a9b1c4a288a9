/** Every call about proofs, on many proofs made by lot (always the same), against Slow's answers. */
public final class AgainstSlowTest {
    private static final Due DUE = new Due("AgainstSlowTest");
    private static final int PROOFS = 3000;
    private static final Lots LOTS = new Lots(20261118);
    private static final Compare COMPARE = new Compare(DUE, LOTS);

    public static void main(String[] args) {
        String before = "g";
        for (int k = 0; k < PROOFS; k++) {
            String text = LOTS.anyText(2 + LOTS.lot.nextInt(5));
            ShortProofs x = Due.of(text, before);
            DUE.same("text", Due.told(x, 0), text);
            COMPARE.proof(x, 0, Slow.of(text));
            COMPARE.ways(x, 0, Slow.of(text));
            heaps(text, before);
            if (k % 8 == 0) {
                COMPARE.grounds(x, 0, Slow.of(text));
            }
            wrongSign(text);
            before = text;
        }
        DUE.end();
    }

    /** A heap keeps what is idle; so does the heap of it and of one of its parts. */
    private static void heaps(String first, String second) {
        ShortProofs x = Due.of(first, second);
        Slow heap = COMPARE.heap(x, 0, Slow.of(first), 1, Slow.of(second));
        if (heap != null) {
            COMPARE.proof(x, 2, heap);
            COMPARE.ways(x, 2, heap);
            COMPARE.heap(x, 2, heap, 0, Slow.of(first));
        }
    }

    /** One code of a right text changed: all ahead of it is right, so the first wrong is not ahead. */
    private static void wrongSign(String text) {
        int at = LOTS.lot.nextInt(text.length());
        String codes = "abcdefABCDEFg;,0123456789x";
        char code = codes.charAt(LOTS.lot.nextInt(codes.length()));
        String changed = text.substring(0, at) + code + text.substring(at + 1);
        int due = SlowReader.firstWrong(changed);
        ShortProofs x = new ShortProofs();
        DUE.is("text " + changed, Due.read(x, changed), due < 0 ? 0 : -100 - due);
        String shorter = text.substring(0, at);
        due = SlowReader.firstWrong(shorter);
        DUE.is("text " + shorter, Due.read(x, shorter), due < 0 ? x.many(0) - 1 : -100 - due);
    }
}
