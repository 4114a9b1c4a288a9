import java.lang.reflect.Constructor;
import java.lang.reflect.Field;
import java.lang.reflect.Method;
import java.lang.reflect.Modifier;
import java.util.Arrays;
import java.util.Set;
import java.util.TreeSet;

/** Promises 26 to 29 and 31: tell, show, as, trace, many; and the public face. */
public final class PartsTest {
    private static final Due DUE = new Due("PartsTest");
    /** A ground, a ground, a cut, a ground, and the end. */
    private static final String CHAIN = "ga;gAb;c0,1a;gBc;c2,3b";

    public static void main(String[] args) {
        tell();
        show();
        as();
        traceWraps();
        many();
        face();
        DUE.end();
    }

    private static int leave(int trace, int... numbers) {
        int left = trace;
        for (int number : numbers) {
            left = 31 * left + number;
        }
        return left;
    }

    private static void tell() {
        ShortProofs x = Due.of(CHAIN, "gaB", "ga;gA;c0,1a;gb");
        DUE.is("a ground", x.tell(0, 1), 66);
        DUE.is("trace()", x.trace(), 1);
        DUE.is("a cut: its clause, left and right", x.tell(0, 2), 2 + 0 + 1);
        int trace = leave(1, 2, 1);
        DUE.is("trace()", x.trace(), trace);
        DUE.is("the end: what a cut gives, and its clause", x.tell(0, 4), 4 + 2 + 3 + 4);
        trace = leave(trace, 3, 2, 1, 1);
        DUE.is("trace()", x.trace(), trace);
        DUE.is("an end that is a ground", x.tell(1, 0), 129);
        trace = leave(trace, 1);
        DUE.is("trace()", x.trace(), trace);
        DUE.is("an idle cut", x.tell(2, 2), 1);
        trace = leave(trace, 2, 1);
        DUE.is("no such line", x.tell(0, 5), -1);
        DUE.is("no such line", x.tell(0, -1), -1);
        DUE.is("no such proof", x.tell(3, 0), -1);
        DUE.is("no such proof", x.tell(-1, 0), -1);
        DUE.is("trace()", x.trace(), trace);
    }

    private static void show() {
        ShortProofs x = Due.of(CHAIN, "ga;gb");
        int trace = 0;
        for (int l = 0; l < 4; l++) {
            DUE.is("show(0, " + l + ")", x.show(0, l), l);
            trace = leave(trace, 4);
            DUE.is("trace()", x.trace(), trace);
        }
        DUE.is("show(0, 4)", x.show(0, 4), 90);
        trace = leave(trace, 5);
        DUE.is("trace()", x.trace(), trace);
        DUE.is("show(1, 1)", x.show(1, 1), 1);
        trace = leave(trace, 4);
        DUE.is("no such line", x.show(0, 5), -1);
        DUE.is("no such line", x.show(0, -1), -1);
        DUE.is("no such proof", x.show(2, 0), -1);
        DUE.is("no such proof", x.show(-1, 0), -1);
        DUE.is("trace()", x.trace(), trace);
    }

    private static void as() {
        ShortProofs x = Due.of(CHAIN, "ga;gb");
        int[] kinds = {0, 0, 1, 0, 2};
        for (int l = 0; l < kinds.length; l++) {
            for (int kind = 0; kind < 3; kind++) {
                DUE.is("as(0, " + l + ", " + kind + ")", x.as(0, l, kind), kind <= kinds[l] ? 1 : -12);
                DUE.is("fault()", x.fault(), kind <= kinds[l] ? 0 : 2);
            }
            DUE.is("kind 3", x.as(0, l, 3), -2);
            DUE.is("fault()", x.fault(), 0);
            DUE.is("kind -1", x.as(0, l, -1), -2);
        }
        DUE.is("an end that is a ground", x.as(1, 1, 1), -12);
        DUE.is("no such line", x.as(0, 5, 9), -1);
        DUE.is("fault()", x.fault(), 0);
        DUE.is("no such line", x.as(0, -1, 0), -1);
        DUE.is("no such proof", x.as(2, 0, 0), -1);
        DUE.is("no such proof", x.as(-1, 0, 0), -1);
        // a heap that ends with b: the cut of line 2 is its end
        DUE.is("heap", x.heap(0, 1), 2);
        DUE.is("its lines", x.size(2, 0), 3);
        DUE.is("as(2, 2, 2)", x.as(2, 2, 2), 1);
        DUE.is("as(0, 2, 2)", x.as(0, 2, 2), -12);
        // a proof's end is a cut like others in a heap that goes on
        DUE.is("heap", x.heap(2, 0), 3);
        DUE.is("as(3, 2, 2)", x.as(3, 2, 2), -12);
        DUE.is("as(3, 4, 2)", x.as(3, 4, 2), 1);
    }

    private static void traceWraps() {
        ShortProofs x = Due.of(CHAIN);
        int trace = 0;
        for (int k = 0; k < 40; k++) {
            x.tell(0, 4);
            trace = leave(trace, 3, 2, 1, 1);
            DUE.is("trace()", x.trace(), trace);
        }
    }

    private static void many() {
        ShortProofs x = Due.of(CHAIN, "ga;gb");
        DUE.is("many(0)", x.many(0), 2);
        DUE.is("many(1)", x.many(1), 7);
        DUE.is("many(2)", x.many(2), -2);
        DUE.is("many(-1)", x.many(-1), -2);
        x.shorter(1, 0);
        DUE.is("many(0)", x.many(0), 3);
        DUE.is("many(1)", x.many(1), 8);
    }

    /** The document's face and no other member that can be seen outside. */
    private static void face() {
        String methods = "int text(int,int,int,int);int line(int,int,int);int size(int,int);int rests(int);"
            + "int truly(int);int fewest(int,int);int shorter(int,int);int safe(int,int);int twice(int);"
            + "int heap(int,int);int shared(int,int);int core(int,int,int);long middle(int,int,int);"
            + "long truths(int,int,int);int cuts(int,int);int units(int,int);int follows(int,int);"
            + "int cut(int,int,int);int stronger(int,int);int sheet(int,int,int);int lose(int);"
            + "int put(int,int,int);long cell(int,int,int);int copy(int,int,int,int,int);int tell(int,int);"
            + "int show(int,int);int as(int,int,int);int trace();int fault();int many(int)";
        Set<String> seen = new TreeSet<>();
        Set<String> names = new TreeSet<>();
        for (Method method : ShortProofs.class.getDeclaredMethods()) {
            if (!Modifier.isPrivate(method.getModifiers())) {
                String text = method.toString().replace("public ", "").replace("ShortProofs.", "");
                seen.add(text);
                names.add(method.getName());
            }
        }
        DUE.same("methods", seen.toString(), new TreeSet<>(Arrays.asList(methods.split(";"))).toString());
        for (Method method : ShortProofs.class.getDeclaredMethods()) {
            DUE.holds("no private method bears the name of a public one: " + method,
                Modifier.isPublic(method.getModifiers()) || !names.contains(method.getName()));
        }
        Set<String> constants = new TreeSet<>();
        for (Field field : ShortProofs.class.getDeclaredFields()) {
            if (!Modifier.isPrivate(field.getModifiers())) {
                constants.add(field.getName());
            }
        }
        DUE.same("constants", constants.toString(), "[FULL, LOST, NONE, OUTSIDE, STATE, UNKNOWN]");
        for (Constructor<?> constructor : ShortProofs.class.getDeclaredConstructors()) {
            DUE.same("constructor", constructor.toString(), "public ShortProofs()");
        }
        DUE.holds("final", Modifier.isFinal(ShortProofs.class.getModifiers()));
    }
}
