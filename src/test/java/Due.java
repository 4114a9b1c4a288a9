/** Counts the answers that are due, and tells those that were not given. */
final class Due {
    static final long LOST = Long.MIN_VALUE;
    /** The sheet that texts are brought by, and its lane. */
    private static final int SHEET = 3, LANE = 2;

    private final String name;
    private int asked;
    private int wrong;

    Due(String name) {
        this.name = name;
    }

    void is(String call, long got, long want) {
        asked++;
        if (got != want) {
            wrong++;
            System.out.println(call + " answered " + got + ", due is " + want);
        }
    }

    void holds(String what, boolean held) {
        is(what, held ? 1 : 0, 1);
    }

    /** What text() answers for a text. */
    static int read(ShortProofs x, String text) {
        x.sheet(SHEET, LANE, text.length());
        for (int i = 0; i < text.length(); i++) {
            x.put(SHEET, i, text.charAt(i));
        }
        return x.text(SHEET, LANE, 0, text.length());
    }

    /** A new object whose proofs 0, 1, .. have these texts. */
    static ShortProofs of(String... texts) {
        ShortProofs x = new ShortProofs();
        for (int p = 0; p < texts.length; p++) {
            if (read(x, texts[p]) != p) {
                throw new IllegalStateException("no proof: " + texts[p]);
            }
        }
        return x;
    }

    /** A proof told as a text, whatever its length. */
    static String told(ShortProofs x, int p) {
        StringBuilder text = new StringBuilder();
        for (int l = 0; l < x.size(p, 0); l++) {
            text.append(l == 0 ? "" : ";");
            if (x.line(p, l, 1) == 0) {
                text.append('g').append(signs(x.line(p, l, 0)));
            } else {
                text.append('c').append(x.line(p, l, 2)).append(',').append(x.line(p, l, 3));
                text.append((char) ('a' + x.line(p, l, 4)));
            }
        }
        return text.toString();
    }

    static String signs(int clause) {
        StringBuilder text = new StringBuilder();
        for (int letter = 0; letter < 6; letter++) {
            if ((clause >> letter & 1) != 0) {
                text.append((char) ('a' + letter));
            }
            if ((clause >> letter + 6 & 1) != 0) {
                text.append((char) ('A' + letter));
            }
        }
        return text.toString();
    }

    static int clause(String signs) {
        int clause = 0;
        for (char sign : signs.toCharArray()) {
            clause |= sign >= 'a' ? 1 << sign - 'a' : 64 << sign - 'A';
        }
        return clause;
    }

    void same(String what, String got, String want) {
        asked++;
        if (!got.equals(want)) {
            wrong++;
            System.out.println(what + " made " + got + ", due is " + want);
        }
    }

    void end() {
        System.out.println(name + ": " + asked + " answers, " + wrong + " not as due");
        if (wrong != 0) {
            System.exit(1);
        }
    }
}
