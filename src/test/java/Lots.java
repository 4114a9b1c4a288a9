import java.util.ArrayList;
import java.util.List;
import java.util.Random;
import java.util.TreeSet;

/** Texts made by lot, always the same ones for the same seed. */
final class Lots {
    private static final int MOST_CODES = 60, MOST_ITEMS = 16;

    final Random lot;

    Lots(int seed) {
        lot = new Random(seed);
    }

    /** Sixty codes at most; cuts are taken where they can be, short ones rather than long ones. */
    String anyText(int letters) {
        StringBuilder text = new StringBuilder();
        int most = 1 + lot.nextInt(MOST_ITEMS);
        for (int item = 0; item < most; item++) {
            if (!goesOn(text, letters, lot.nextInt(5) < 3)) {
                break;
            }
        }
        return text.toString();
    }

    private boolean goesOn(StringBuilder text, int letters, boolean byCut) {
        List<Slow.Line> lines = text.length() == 0 ? new ArrayList<>() : Slow.of(text.toString()).lines;
        String cut = byCut ? anyCut(lines, letters) : "";
        int signs = lot.nextInt(20) == 0 ? 0 : 1 + lot.nextInt(3);
        return adds(text, cut.isEmpty() ? "g" + anySigns(letters, signs) : cut);
    }

    private static boolean adds(StringBuilder text, String item) {
        if (text.length() + 1 + item.length() > MOST_CODES) {
            return false;
        }
        text.append(text.length() == 0 ? "" : ";").append(item);
        return true;
    }

    String anySigns(int letters, int most) {
        int clause = 0;
        for (int k = 0; k < most; k++) {
            int letter = lot.nextInt(letters);
            if ((clause >> letter & 1) == 0 && (clause >> letter + 6 & 1) == 0) {
                clause |= lot.nextBoolean() ? 1 << letter : 64 << letter;
            }
        }
        return Due.signs(clause);
    }

    TreeSet<Character> anyClause(int letters) {
        return Slow.signs(anySigns(letters, 1 + lot.nextInt(3)));
    }

    private String anyCut(List<Slow.Line> lines, int letters) {
        String best = "";
        int width = 99;
        for (int tried = 0; tried < 60 && !lines.isEmpty(); tried++) {
            int left = lot.nextInt(lines.size());
            int right = lot.nextInt(lines.size());
            char letter = (char) ('a' + lot.nextInt(letters));
            Slow.Line cut = Slow.Line.cut(lines.get(left), lines.get(right), letter);
            if (cut != null && cut.signs.size() < width + lot.nextInt(2)) {
                best = "c" + left + "," + right + letter;
                width = cut.signs.size();
            }
        }
        return best;
    }
}
