import java.util.Set;
import java.util.TreeSet;

/** Every call about a proof, against Slow's answers. */
final class Compare {
    private static final int SMALL = 7 + 64 * 7;

    private final Due due;
    private final Lots lots;

    Compare(Due due, Lots lots) {
        this.due = due;
        this.lots = lots;
    }

    void proof(ShortProofs x, int p, Slow slow) {
        String told = slow.told();
        for (int what = 0; what < 6; what++) {
            due.is(told + ": size " + what, x.size(p, what), slow.size(what));
        }
        for (int l = 0; l < slow.lines.size(); l++) {
            Slow.Line line = slow.lines.get(l);
            int kind = line.left == null ? 0 : line == slow.end() ? 2 : 1;
            due.is(told + ": clause " + l, x.line(p, l, 0), Slow.number(line.signs));
            due.is(told + ": kind " + l, x.line(p, l, 1), kind);
            due.is(told + ": safe " + l, x.safe(p, l), Slow.number(slow.safe(line)));
        }
        due.is(told + ": rests", x.rests(p), slow.rests());
        due.is(told + ": truly", x.truly(p), slow.truly());
        due.is(told + ": twice", x.twice(p), slow.lines.size() - slow.clauses().size());
        order(x, p, slow);
    }

    private void order(ShortProofs x, int p, Slow slow) {
        String told = slow.told();
        if (Integer.bitCount(slow.rests()) > 12) {
            due.is(told + ": fewest", x.fewest(p, -1), -3);
            return;
        }
        int[] fewest = slow.fewest();
        for (int k = -1; k < 12; k++) {
            due.is(told + ": fewest " + k, x.fewest(p, k), k + 1 < fewest.length ? fewest[k + 1] : -9);
        }
    }

    /** Proof p made shorter by each way; what is made is compared, too. */
    void ways(ShortProofs x, int p, Slow slow) {
        for (int way = 0; way < 5; way++) {
            Slow made = slow.shorter(way);
            int lines = x.many(1);
            int q = x.shorter(p, way);
            if (made == null) {
                due.is(slow.told() + ": shorter " + way, q, -3);
                due.is("nothing is made", x.many(1), lines);
                continue;
            }
            due.same(slow.told() + ": shorter " + way, Due.told(x, q), made.told());
            due.holds(slow.told() + ": its end is as strong", x.stronger(x.line(q, x.size(q, 0) - 1, 0),
                Slow.number(slow.end().signs)) == 1);
            if (!made.told().equals(slow.told())) {
                proof(x, q, made);
            }
        }
    }

    /** The heap of proofs p and q; Slow's is given back, null, if it is too long. */
    Slow heap(ShortProofs x, int p, Slow first, int q, Slow second) {
        Slow heap = Slow.heap(first, second);
        int made = x.heap(p, q);
        due.same(first.told() + " and " + second.told() + ": heap", made < 0 ? "" + made : Due.told(x, made),
            heap == null ? "-3" : heap.told());
        Set<Set<Character>> both = first.clauses();
        both.retainAll(second.clauses());
        due.is(first.told() + " and " + second.told() + ": shared", x.shared(p, q), both.size());
        return heap;
    }

    void grounds(ShortProofs x, int p, Slow slow) {
        String told = slow.told();
        int grounds = slow.grounds().size();
        if (grounds <= 8) {
            due.is(told + ": core 0", x.core(p, 0, 0), slow.leastCore());
            due.is(told + ": core 1", x.core(p, 1, 0), slow.bareCores());
        }
        for (int k = 0; k < 8 && grounds <= 10; k++) {
            int set = lots.lot.nextInt(1 << grounds);
            due.is(told + ": core 2 of " + set, x.core(p, 2, set), slow.isCore(set) ? 1 : 0);
            due.is(told + ": core 3 of " + set, x.core(p, 3, set), slow.isBare(set) ? 1 : 0);
            for (int half = 0; half < 2; half++) {
                due.is(told + ": truths of " + set, x.truths(p, set, half), slow.truths(set, half));
                due.is(told + ": middle of " + set, x.middle(p, set, half),
                    slow.end().signs.isEmpty() ? slow.middle(set, half) : Due.LOST);
            }
            liesBetween(x, p, set, (1 << grounds) - 1 & ~set, told);
        }
        clauses(x, p, slow);
    }

    private void clauses(ShortProofs x, int p, Slow slow) {
        String told = slow.told();
        int another = 0;
        for (Slow.Line ground : slow.grounds()) {
            another |= Slow.number(ground.signs) & ~SMALL;
        }
        for (int k = 0; k < 8; k++) {
            TreeSet<Character> clause = lots.anyClause(lots.lot.nextBoolean() ? 3 : 6);
            int number = Slow.number(clause);
            boolean small = (number & ~SMALL) == 0;
            due.is(told + ": units of " + clause, x.units(p, number), slow.units(clause) ? 1 : 0);
            due.is(told + ": follows of " + clause, x.follows(p, number), slow.follows(clause) ? 1 : 0);
            due.is(told + ": cuts of " + clause, x.cuts(p, number),
                !small ? -2 : another != 0 ? -3 : slow.cuts(clause));
        }
    }

    /** What the part says yields the middle, and the middle cannot be true with the others. */
    private void liesBetween(ShortProofs x, int p, int part, int others, String told) {
        for (int half = 0; half < 2; half++) {
            long middle = x.middle(p, part, half);
            if (middle != Due.LOST) {
                due.is(told + ": part " + part, x.truths(p, part, half) & ~middle, 0);
                due.is(told + ": part " + part, x.truths(p, others, half) & middle, 0);
            }
        }
    }
}
