import java.util.ArrayList;
import java.util.List;
import java.util.Random;
import java.util.Set;
import java.util.TreeSet;

/** Every call about proofs, on many proofs made by lot (always the same), against Slow's answers. */
public final class AgainstSlowTest {
    private static final Due DUE = new Due("AgainstSlowTest");
    private static final int PROOFS = 3000;
    private static final Random LOT = new Random(20261118);

    public static void main(String[] args) {
        String before = "g";
        for (int k = 0; k < PROOFS; k++) {
            String text = anyText(2 + LOT.nextInt(5));
            ShortProofs x = Due.of(text, before);
            DUE.same("text", Due.told(x, 0), text);
            compareProof(x, 0, Slow.of(text));
            compareMade(x, Slow.of(text), Slow.of(before));
            compareHeap(text, before);
            if (k % 8 == 0) {
                compareGrounds(x, Slow.of(text));
            }
            wrongSign(text);
            before = text;
        }
        DUE.end();
    }

    /** Sixty codes at most; cuts are taken where they can be, short ones rather than long ones. */
    static String anyText(int letters) {
        StringBuilder text = new StringBuilder();
        List<Slow.Line> lines = new ArrayList<>();
        int most = 1 + LOT.nextInt(16);
        for (int item = 0; item < most; item++) {
            String cut = LOT.nextInt(5) < 3 ? anyCut(lines, letters) : "";
            String next = cut.isEmpty() ? "g" + anySigns(letters, LOT.nextInt(20) == 0 ? 0 : 1 + LOT.nextInt(3)) : cut;
            if (text.length() + 1 + next.length() > 60) {
                break;
            }
            text.append(item == 0 ? "" : ";").append(next);
            lines.clear();
            lines.addAll(Slow.of(text.toString()).lines);
        }
        return text.toString();
    }

    private static String anySigns(int letters, int most) {
        int clause = 0;
        for (int k = 0; k < most; k++) {
            int letter = LOT.nextInt(letters);
            if ((clause >> letter & 1) == 0 && (clause >> letter + 6 & 1) == 0) {
                clause |= LOT.nextBoolean() ? 1 << letter : 64 << letter;
            }
        }
        return Due.signs(clause);
    }

    private static String anyCut(List<Slow.Line> lines, int letters) {
        String best = "";
        int width = 99;
        for (int tried = 0; tried < 60 && !lines.isEmpty(); tried++) {
            int left = LOT.nextInt(lines.size());
            int right = LOT.nextInt(lines.size());
            char letter = (char) ('a' + LOT.nextInt(letters));
            Slow.Line cut = Slow.Line.cut(lines.get(left), lines.get(right), letter);
            if (cut != null && cut.signs.size() < width + LOT.nextInt(2)) {
                best = "c" + left + "," + right + letter;
                width = cut.signs.size();
            }
        }
        return best;
    }

    private static void compareProof(ShortProofs x, int p, Slow slow) {
        String told = slow.told();
        for (int what = 0; what < 6; what++) {
            DUE.is(told + ": size " + what, x.size(p, what), slow.size(what));
        }
        for (int l = 0; l < slow.lines.size(); l++) {
            Slow.Line line = slow.lines.get(l);
            int kind = line.left == null ? 0 : line == slow.end() ? 2 : 1;
            DUE.is(told + ": clause " + l, x.line(p, l, 0), Slow.number(line.signs));
            DUE.is(told + ": kind " + l, x.line(p, l, 1), kind);
            DUE.is(told + ": safe " + l, x.safe(p, l), Slow.number(slow.safe(line)));
        }
        DUE.is(told + ": rests", x.rests(p), slow.rests());
        DUE.is(told + ": truly", x.truly(p), slow.truly());
        DUE.is(told + ": twice", x.twice(p), slow.lines.size() - slow.clauses().size());
        if (Integer.bitCount(slow.rests()) > 12) {
            DUE.is(told + ": fewest", x.fewest(p, -1), -3);
            return;
        }
        int[] fewest = slow.fewest();
        for (int k = -1; k < 12; k++) {
            DUE.is(told + ": fewest " + k, x.fewest(p, k), k + 1 < fewest.length ? fewest[k + 1] : -9);
        }
    }

    private static void compareMade(ShortProofs x, Slow slow, Slow other) {
        for (int way = 0; way < 5; way++) {
            Slow made = slow.shorter(way);
            int lines = x.many(1);
            int p = x.shorter(0, way);
            if (made == null) {
                DUE.is(slow.told() + ": shorter " + way, p, -3);
                DUE.is("nothing is made", x.many(1), lines);
                continue;
            }
            DUE.same(slow.told() + ": shorter " + way, Due.told(x, p), made.told());
            DUE.holds(slow.told() + ": its end is as strong", x.stronger(x.line(p, x.size(p, 0) - 1, 0),
                Slow.number(slow.end().signs)) == 1);
            if (!made.told().equals(slow.told())) {
                compareProof(x, p, made);
            }
        }
        Slow heap = Slow.heap(slow, other);
        int p = x.heap(0, 1);
        if (heap == null) {
            DUE.is(slow.told() + " and " + other.told() + ": heap", p, -3);
        } else {
            DUE.same(slow.told() + " and " + other.told() + ": heap", Due.told(x, p), heap.told());
        }
        Set<Set<Character>> both = slow.clauses();
        both.retainAll(other.clauses());
        DUE.is(slow.told() + " and " + other.told() + ": shared", x.shared(0, 1), both.size());
    }

    /** A heap is longer than what a text can tell, and keeps what is idle; so do heaps of heaps. */
    private static void compareHeap(String first, String second) {
        Slow heap = Slow.heap(Slow.of(first), Slow.of(second));
        if (heap == null) {
            return;
        }
        ShortProofs x = Due.of(first, second);
        compareProof(x, x.heap(0, 1), heap);
        for (int way = 0; way < 5; way++) {
            Slow made = heap.shorter(way);
            int p = x.shorter(2, way);
            DUE.same(heap.told() + ": shorter " + way, p < 0 ? "" + p : Due.told(x, p),
                made == null ? "-3" : made.told());
        }
        Slow more = Slow.heap(heap, Slow.of(first));
        int p = x.heap(2, 0);
        DUE.same(heap.told() + " and " + first + ": heap", p < 0 ? "" + p : Due.told(x, p),
            more == null ? "-3" : more.told());
    }

    private static void compareGrounds(ShortProofs x, Slow slow) {
        String told = slow.told();
        int grounds = slow.grounds().size();
        if (grounds <= 8) {
            DUE.is(told + ": core 0", x.core(0, 0, 0), slow.leastCore());
            DUE.is(told + ": core 1", x.core(0, 1, 0), slow.bareCores());
        }
        for (int k = 0; k < 8 && grounds <= 10; k++) {
            int set = LOT.nextInt(1 << grounds);
            DUE.is(told + ": core 2 of " + set, x.core(0, 2, set), slow.isCore(set) ? 1 : 0);
            DUE.is(told + ": core 3 of " + set, x.core(0, 3, set), slow.isBare(set) ? 1 : 0);
            for (int half = 0; half < 2; half++) {
                DUE.is(told + ": truths of " + set, x.truths(0, set, half), slow.truths(set, half));
                DUE.is(told + ": middle of " + set, x.middle(0, set, half),
                    slow.end().signs.isEmpty() ? slow.middle(set, half) : Due.LOST);
            }
            liesBetween(x, set, (1 << grounds) - 1 & ~set, told);
        }
        int another = 0;
        for (Slow.Line ground : slow.grounds()) {
            another |= Slow.number(ground.signs) & ~(7 + 64 * 7);
        }
        for (int k = 0; k < 8; k++) {
            TreeSet<Character> clause = Slow.signs(anySigns(LOT.nextBoolean() ? 3 : 6, 1 + LOT.nextInt(3)));
            int number = Slow.number(clause);
            boolean small = (number & ~(7 + 64 * 7)) == 0;
            DUE.is(told + ": units of " + clause, x.units(0, number), slow.units(clause) ? 1 : 0);
            DUE.is(told + ": follows of " + clause, x.follows(0, number), slow.follows(clause) ? 1 : 0);
            DUE.is(told + ": cuts of " + clause, x.cuts(0, number),
                !small ? -2 : another != 0 ? -3 : slow.cuts(clause));
        }
    }

    /** What the part says yields the middle, and the middle cannot be true with the others. */
    private static void liesBetween(ShortProofs x, int part, int others, String told) {
        for (int half = 0; half < 2; half++) {
            long middle = x.middle(0, part, half);
            if (middle != Due.LOST) {
                DUE.is(told + ": part " + part, x.truths(0, part, half) & ~middle, 0);
                DUE.is(told + ": part " + part, x.truths(0, others, half) & middle, 0);
            }
        }
    }

    /** One code of a right text changed: all ahead of it is right, so the first wrong is not ahead. */
    private static void wrongSign(String text) {
        int at = LOT.nextInt(text.length());
        String codes = "abcdefABCDEFg;,0123456789x";
        char code = codes.charAt(LOT.nextInt(codes.length()));
        String changed = text.substring(0, at) + code + text.substring(at + 1);
        int due = SlowReader.firstWrong(changed);
        ShortProofs x = new ShortProofs();
        DUE.is("text " + changed, Due.read(x, changed), due < 0 ? 0 : -100 - due);
        String shorter = text.substring(0, at);
        due = SlowReader.firstWrong(shorter);
        DUE.is("text " + shorter, Due.read(x, shorter), due < 0 ? x.many(0) - 1 : -100 - due);
    }
}
