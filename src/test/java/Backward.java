import java.util.ArrayList;
import java.util.List;
import java.util.Random;

/**
 * Proofs made by lot from the end back: a line that is no cut yet becomes one, so that the end rests
 * on all of them, units are cut often, and the same letter is cut again and again. A proof comes as
 * texts: each but the first begins with grounds that are lines of those ahead, and stand for them in
 * the heap of all.
 */
final class Backward {
    private static final int MOST_CODES = 60, MOST_ITEMS = 16;

    /** A line; left is null as long as it is a ground. */
    private static final class Part {
        final int clause;
        Part left;
        Part right;
        int letter;

        Part(int clause) {
            this.clause = clause;
        }

        boolean restsOn(Part other) {
            return this == other || left != null && (left.restsOn(other) || right.restsOn(other));
        }
    }

    private final Random lot;
    private final int letters;
    private final List<Part> parts = new ArrayList<>();
    private final List<Part> order = new ArrayList<>();

    private Backward(Random lot, int letters) {
        this.lot = lot;
        this.letters = letters;
    }

    static List<String> texts(Random lot, int letters, int lines) {
        Backward made = new Backward(lot, letters);
        made.parts.add(new Part(lot.nextInt(3) == 0 ? 1 << lot.nextInt(letters) : 0));
        for (int tried = 0; tried < 200 && made.parts.size() + 1 < lines; tried++) {
            made.cutsOne();
        }
        made.comes(made.parts.get(0));
        return made.cutToTexts();
    }

    private void cutsOne() {
        Part part = parts.get(lot.nextInt(parts.size()));
        int letter = lot.nextInt(letters);
        if (part.left != null || (part.clause >> letter & 1) != 0 || (part.clause >> letter + 6 & 1) != 0) {
            return;
        }
        int left = 0;
        int right = 0;
        int unit = lot.nextInt(3);
        for (int sign = 1; sign < 4096; sign *= 2) {
            if ((part.clause & sign) != 0) {
                int side = unit < 2 ? unit : lot.nextInt(3);
                left |= side != 0 ? sign : 0;
                right |= side != 1 ? sign : 0;
            }
        }
        part.letter = letter;
        Part first = anyWith(left | 1 << letter, part);
        Part second = anyWith(right | 64 << letter, part);
        part.left = first;
        part.right = second;
    }

    /** Mostly a line that is there already, but for those that rest on the one that is to be cut from it. */
    private Part anyWith(int clause, Part user) {
        for (Part part : parts) {
            if (part.clause == clause && !part.restsOn(user) && lot.nextInt(8) != 0) {
                return part;
            }
        }
        Part made = new Part(clause);
        parts.add(made);
        return made;
    }

    private void comes(Part part) {
        if (order.contains(part)) {
            return;
        }
        if (part.left != null) {
            boolean leftFirst = lot.nextBoolean();
            comes(leftFirst ? part.left : part.right);
            comes(leftFirst ? part.right : part.left);
        }
        order.add(part);
    }

    private List<String> cutToTexts() {
        List<String> texts = new ArrayList<>();
        String text = "";
        List<Part> told = new ArrayList<>();
        for (Part part : order) {
            String longer = with(text, told, part);
            if (longer.length() > MOST_CODES || told.size() > MOST_ITEMS) {
                texts.add(text);
                told.clear();
                longer = with("", told, part);
            }
            text = longer;
        }
        texts.add(text);
        return texts;
    }

    /** The text with one line more, and what it is cut from ahead of it, where that is not told yet. */
    private static String with(String text, List<Part> told, Part part) {
        if (told.contains(part)) {
            return text;
        }
        String longer = text;
        if (part.left != null) {
            longer = toldAhead(toldAhead(longer, told, part.left), told, part.right);
        }
        String item = part.left == null ? "g" + Due.signs(part.clause)
            : "c" + told.indexOf(part.left) + "," + told.indexOf(part.right) + (char) ('a' + part.letter);
        told.add(part);
        return longer.isEmpty() ? item : longer + ";" + item;
    }

    private static String toldAhead(String text, List<Part> told, Part part) {
        if (told.contains(part)) {
            return text;
        }
        told.add(part);
        return (text.isEmpty() ? "g" : text + ";g") + Due.signs(part.clause);
    }
}
