import java.util.Map;
import java.util.function.Supplier;

/**
 * Asks one call of an object that is made anew for it, and looks at what it answers, what fault()
 * tells behind it, and what else it changed. Each object is made so that fault() tells OLD ahead of
 * the call: a call that names no faults leaves it, another one does not.
 */
final class Bounds {
    static final int MOST = Integer.MAX_VALUE, LEAST = Integer.MIN_VALUE;
    static final int UNKNOWN = -1, OUTSIDE = -2, STATE = -3, FULL = -4, NONE = -9;
    static final int NO_FAULT = 0, NULL = 1, CAST = 2, INDEX = 3, SIZE = 4;
    /** The fault that is told ahead of each call: what a call that names none leaves there. */
    static final int OLD = SIZE;

    interface Call {
        long on(ShortProofs x);
    }

    interface NumberCall {
        long on(ShortProofs x, int number);
    }

    private final Due due;
    private final Supplier<ShortProofs> maker;

    Bounds(Due due, Supplier<ShortProofs> maker) {
        this.due = due;
        this.maker = () -> {
            ShortProofs x = maker.get();
            x.sheet(0, 0, -1);
            return x;
        };
    }

    /** Two proofs, a sheet of each lane, a sheet with nothing, a trace. */
    static ShortProofs usual() {
        ShortProofs x = Due.of("gab;gaB;gAc;gAC;c0,1b;c2,3c;c4,5a", "ga;gb");
        x.tell(0, 6);
        x.lose(3);
        fill(x, 0, 0, 1, -2, 3);
        fill(x, 1, 1, 400, -5, 6, 7);
        fill(x, 2, 2, 100000, 2, 3, 4, 5);
        return x;
    }

    static ShortProofs full() {
        ShortProofs x = usual();
        while (x.many(0) < 12) {
            x.shorter(1, 0);
        }
        return x;
    }

    static void fill(ShortProofs x, int k, int lane, int... values) {
        x.sheet(k, lane, values.length);
        for (int i = 0; i < values.length; i++) {
            x.put(k, i, values[i]);
        }
    }

    /** The call changes these parts alone: pairs of a part's name and what is to be seen there. */
    void changes(String what, long answer, int fault, Call call, String... parts) {
        ShortProofs x = maker.get();
        due.is(what, call.on(x), answer);
        due.is("fault() behind " + what, x.fault(), fault);
        Map<String, String> wanted = Seen.all(maker.get());
        for (int k = 0; k < parts.length; k += 2) {
            wanted.put(parts[k], parts[k + 1]);
        }
        due.same("what is to be seen behind " + what, Seen.all(x).toString(), wanted.toString());
    }

    /** Of a call that names no faults: it changes nothing. */
    void tells(String what, long answer, Call call) {
        changes(what, answer, OLD, call);
    }

    /** Of a call that names faults, and came to none. */
    void clears(String what, long answer, Call call) {
        changes(what, answer, NO_FAULT, call);
    }

    void faults(String what, int fault, Call call) {
        changes(what, -10 - fault, fault, call);
    }

    void losesBy(String what, int fault, Call call) {
        changes(what, Due.LOST, fault, call);
    }

    /** The last numbers that are taken and the first that are refused, on both sides, and far ones. */
    void range(String what, int first, int last, long refusal, NumberCall call) {
        ends(what, first, last, refusal, OLD, call);
    }

    /** The same of a call that names faults. */
    void clearingRange(String what, int first, int last, long refusal, NumberCall call) {
        ends(what, first, last, refusal, NO_FAULT, call);
    }

    private void ends(String what, int first, int last, long refusal, int fault, NumberCall call) {
        for (int number : new int[] {first, last}) {
            due.holds(what + " " + number + " is taken", call.on(maker.get(), number) != refusal);
        }
        for (int number : new int[] {first - 1, last + 1, LEAST, MOST}) {
            changes(what + " " + number, refusal, fault, x -> call.on(x, number));
        }
    }
}
