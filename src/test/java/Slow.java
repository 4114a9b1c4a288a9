import java.util.ArrayList;
import java.util.HashSet;
import java.util.List;
import java.util.Set;
import java.util.TreeSet;

/**
 * A proof as the document tells it, worked out slowly and plainly: signs are characters, clauses
 * are sets of them, truths are asked of one set of letters at a time.
 */
final class Slow {
    /** A line; of a ground left and right are null. */
    static final class Line {
        final TreeSet<Character> signs = new TreeSet<>();
        Line left;
        Line right;
        char letter;

        static Line ground(Set<Character> signs) {
            Line made = new Line();
            made.signs.addAll(signs);
            return made;
        }

        /** Null, if these make no cut. */
        static Line cut(Line left, Line right, char letter) {
            if (!left.signs.contains(letter) || !right.signs.contains(other(letter))) {
                return null;
            }
            Line made = new Line();
            made.signs.addAll(left.signs);
            made.signs.remove(letter);
            for (char sign : right.signs) {
                if (sign != other(letter)) {
                    made.signs.add(sign);
                }
            }
            for (char sign : made.signs) {
                if (made.signs.contains(other(sign))) {
                    return null;
                }
            }
            made.left = left;
            made.right = right;
            made.letter = letter;
            return made;
        }

        boolean isTrue(int m) {
            for (char sign : signs) {
                boolean letterIsTrue = (m >> Character.toLowerCase(sign) - 'a' & 1) != 0;
                if (letterIsTrue == Character.isLowerCase(sign)) {
                    return true;
                }
            }
            return false;
        }
    }

    final List<Line> lines = new ArrayList<>();

    static char other(char sign) {
        return Character.isLowerCase(sign) ? Character.toUpperCase(sign) : Character.toLowerCase(sign);
    }

    static int number(Set<Character> signs) {
        int number = 0;
        for (char sign : signs) {
            number += Character.isLowerCase(sign) ? 1 << sign - 'a' : 64 << sign - 'A';
        }
        return number;
    }

    static TreeSet<Character> signs(String text) {
        TreeSet<Character> signs = new TreeSet<>();
        for (char sign : text.toCharArray()) {
            signs.add(sign);
        }
        return signs;
    }

    /** A right text. */
    static Slow of(String text) {
        Slow made = new Slow();
        for (String item : text.split(";")) {
            if (item.charAt(0) == 'g') {
                made.lines.add(Line.ground(signs(item.substring(1))));
            } else {
                String[] numbers = item.substring(1, item.length() - 1).split(",");
                made.lines.add(Line.cut(made.lines.get(Integer.parseInt(numbers[0])),
                    made.lines.get(Integer.parseInt(numbers[1])), item.charAt(item.length() - 1)));
            }
        }
        return made;
    }

    String told() {
        StringBuilder text = new StringBuilder();
        for (Line line : lines) {
            text.append(text.length() == 0 ? "" : ";");
            if (line.left == null) {
                text.append('g').append(Due.signs(number(line.signs)));
            } else {
                text.append('c').append(lines.indexOf(line.left)).append(',');
                text.append(lines.indexOf(line.right)).append(line.letter);
            }
        }
        return text.toString();
    }

    Line end() {
        return lines.get(lines.size() - 1);
    }

    static Set<Line> restOf(Line end) {
        Set<Line> rest = new HashSet<>();
        rest.add(end);
        if (end.left != null) {
            rest.addAll(restOf(end.left));
            rest.addAll(restOf(end.right));
        }
        return rest;
    }

    List<Line> grounds() {
        List<Line> grounds = new ArrayList<>();
        for (Line line : lines) {
            if (line.left == null) {
                grounds.add(line);
            }
        }
        return grounds;
    }

    int rests() {
        int set = 0;
        for (Line line : restOf(end())) {
            set |= 1 << lines.indexOf(line);
        }
        return set;
    }

    int truly() {
        int set = 0;
        List<Line> grounds = grounds();
        for (Line line : restOf(end())) {
            if (line.left == null) {
                set |= 1 << grounds.indexOf(line);
            }
        }
        return grounds.size() > 10 ? -3 : set;
    }

    static int deep(Line line) {
        return line.left == null ? 0 : 1 + Math.max(deep(line.left), deep(line.right));
    }

    /** The most that are kept, as these come in this order; those that are cut from one are all here. */
    static int kept(List<Line> order) {
        int most = 0;
        for (int now = 0; now < order.size(); now++) {
            int kept = 0;
            for (int l = 0; l <= now; l++) {
                int last = l;
                for (int user = 0; user < order.size(); user++) {
                    if (order.get(user).left == order.get(l) || order.get(user).right == order.get(l)) {
                        last = user;
                    }
                }
                kept += last >= now ? 1 : 0;
            }
            most = Math.max(most, kept);
        }
        return most;
    }

    int size(int what) {
        int signs = 0;
        int widest = 0;
        for (Line line : lines) {
            signs += line.signs.size();
            widest = Math.max(widest, line.signs.size());
        }
        return new int[] {lines.size(), signs, widest, deep(end()), kept(lines), grounds().size()}[what];
    }

    /** The first order that keeps the fewest, with how many these are ahead of it. */
    int[] fewest() {
        List<Line> all = new ArrayList<>();
        for (Line line : lines) {
            if (restOf(end()).contains(line)) {
                all.add(line);
            }
        }
        for (int bound = 1; bound <= all.size(); bound++) {
            List<Line> order = new ArrayList<>();
            if (ordered(all, order, bound)) {
                int[] found = new int[1 + order.size()];
                found[0] = kept(order);
                for (int k = 0; k < order.size(); k++) {
                    found[k + 1] = lines.indexOf(order.get(k));
                }
                return found;
            }
        }
        return new int[0];
    }

    private static boolean ordered(List<Line> all, List<Line> order, int bound) {
        if (order.size() == all.size()) {
            return true;
        }
        int kept = 1;
        for (Line line : order) {
            boolean awaited = false;
            for (Line user : all) {
                awaited |= !order.contains(user) && (user.left == line || user.right == line);
            }
            kept += awaited ? 1 : 0;
        }
        if (kept > bound) {
            return false;
        }
        for (Line next : all) {
            if (!order.contains(next)
                && (next.left == null || order.contains(next.left) && order.contains(next.right))) {
                order.add(next);
                if (ordered(all, order, bound)) {
                    return true;
                }
                order.remove(order.size() - 1);
            }
        }
        return false;
    }

    TreeSet<Character> safe(Line line) {
        Set<Line> rest = restOf(end());
        TreeSet<Character> safe = line == end() ? new TreeSet<>(line.signs) : signs("abcdefABCDEF");
        for (Line made : rest) {
            if (made.left == line || made.right == line) {
                TreeSet<Character> of = safe(made);
                of.add(made.left == line ? made.letter : other(made.letter));
                safe.retainAll(of);
            }
        }
        return safe;
    }

    private Set<Line> units() {
        Set<Line> units = new HashSet<>();
        Set<Line> rest = restOf(end());
        for (Line line : rest) {
            int made = 0;
            for (Line user : rest) {
                made += user.left == line || user.right == line ? 1 : 0;
            }
            if (line != end() && line.signs.size() == 1 && made >= 2) {
                units.add(line);
            }
        }
        return units;
    }

    /** Null, if there is none. */
    Slow shorter(int way) {
        Slow made = new Slow();
        List<Line> stands = new ArrayList<>();
        if (!made.takeAll(this, way, stands)) {
            return null;
        }
        Line end = stands.get(lines.size() - 1);
        for (int l = lines.size() - 1; way == 4 && l >= 0; l--) {
            if (units().contains(lines.get(l))) {
                char sign = lines.get(l).signs.first();
                Line unit = stands.get(l);
                if (!unit.signs.contains(sign)) {
                    end = unit;
                } else if (end.signs.contains(other(sign))) {
                    end = Character.isLowerCase(sign) ? Line.cut(unit, end, sign) : Line.cut(end, unit, other(sign));
                    if (end == null) {
                        return null;
                    }
                    made.lines.add(end);
                }
            }
        }
        made.lines.retainAll(restOf(end));
        return made;
    }

    private boolean takeAll(Slow old, int way, List<Line> stands) {
        for (Line line : old.lines) {
            Line stand = line.left == null ? Line.ground(line.signs) : old.standing(line, way, stands);
            if (stand == null) {
                return false;
            }
            if (!lines.contains(stand)) {
                Line ahead = way == 1 || way == 2 ? first(stand.signs, way == 1) : null;
                if (ahead == null) {
                    lines.add(stand);
                } else {
                    stand = ahead;
                }
            }
            stands.add(stand);
        }
        return true;
    }

    private Line first(Set<Character> signs, boolean same) {
        for (Line line : lines) {
            if (signs.containsAll(line.signs) && (!same || line.signs.containsAll(signs))) {
                return line;
            }
        }
        return null;
    }

    private Line standing(Line line, int way, List<Line> stands) {
        Line left = stands.get(lines.indexOf(line.left));
        Line right = stands.get(lines.indexOf(line.right));
        if (way == 3) {
            if (safe(line).contains(line.letter)) {
                return left;
            }
            if (safe(line).contains(other(line.letter))) {
                return right;
            }
        }
        if (way == 4) {
            if (units().contains(line.left)) {
                return right;
            }
            if (units().contains(line.right)) {
                return left;
            }
        }
        if (!left.signs.contains(line.letter)) {
            return left;
        }
        if (!right.signs.contains(other(line.letter))) {
            return right;
        }
        return Line.cut(left, right, line.letter);
    }

    /** Null, if it is too long. */
    static Slow heap(Slow first, Slow second) {
        Slow made = new Slow();
        List<Line> stands = new ArrayList<>();
        made.takeAll(first, 1, stands);
        stands.clear();
        made.takeAll(second, 1, stands);
        Line end = stands.get(stands.size() - 1);
        while (made.end() != end) {
            made.lines.remove(made.lines.size() - 1);
        }
        return made.lines.size() > 24 ? null : made;
    }

    Set<Set<Character>> clauses() {
        Set<Set<Character>> clauses = new HashSet<>();
        for (Line line : lines) {
            clauses.add(line.signs);
        }
        return clauses;
    }

    long truths(int set, int half) {
        long truths = 0;
        for (int m = 0; m < 32; m++) {
            boolean all = true;
            for (int g = 0; g < grounds().size(); g++) {
                all &= (set >> g & 1) == 0 || grounds().get(g).isTrue(m + 32 * half);
            }
            truths |= all ? 1L << m : 0;
        }
        return truths;
    }

    boolean isCore(int set) {
        return truths(set, 0) == 0 && truths(set, 1) == 0;
    }

    boolean isBare(int set) {
        if (!isCore(set)) {
            return false;
        }
        for (int less = 0; less < set; less++) {
            if ((less & ~set) == 0 && isCore(less)) {
                return false;
            }
        }
        return true;
    }

    int leastCore() {
        for (int many = 0; many <= grounds().size(); many++) {
            for (int set = 0; set < 1 << grounds().size(); set++) {
                if (Integer.bitCount(set) == many && isCore(set)) {
                    return set;
                }
            }
        }
        return -9;
    }

    int bareCores() {
        int bare = 0;
        for (int set = 0; set < 1 << grounds().size(); set++) {
            bare += isBare(set) ? 1 : 0;
        }
        return bare;
    }

    long middle(int part, int half) {
        long truths = 0;
        for (int m = 0; m < 32; m++) {
            truths |= isMiddle(end(), part, m + 32 * half) ? 1L << m : 0;
        }
        return truths;
    }

    private boolean isMiddle(Line line, int part, int m) {
        if (line.left == null) {
            return (part >> grounds().indexOf(line) & 1) == 0;
        }
        boolean inPart = false;
        boolean inOthers = false;
        for (int g = 0; g < grounds().size(); g++) {
            Set<Character> signs = grounds().get(g).signs;
            boolean has = signs.contains(line.letter) || signs.contains(other(line.letter));
            inPart |= has && (part >> g & 1) != 0;
            inOthers |= has && (part >> g & 1) == 0;
        }
        boolean left = isMiddle(line.left, part, m);
        boolean right = isMiddle(line.right, part, m);
        if (inPart && inOthers) {
            return (m >> line.letter - 'a' & 1) == 0 ? left : right;
        }
        return inPart ? left || right : left && right;
    }

    /** By all sets of clauses that are had by 0, 1, 2, 3 cuts. */
    int cuts(Set<Character> clause) {
        Set<Set<Set<Character>>> all = new HashSet<>();
        Set<Set<Character>> begin = new HashSet<>();
        for (Line ground : grounds()) {
            begin.add(ground.signs);
        }
        all.add(begin);
        for (int cuts = 0; cuts <= 3; cuts++) {
            Set<Set<Set<Character>>> next = new HashSet<>();
            for (Set<Set<Character>> had : all) {
                for (Set<Character> one : had) {
                    if (clause.containsAll(one)) {
                        return cuts;
                    }
                }
                if (cuts < 3) {
                    addCuts(had, next);
                }
            }
            all = next;
        }
        return -9;
    }

    private static void addCuts(Set<Set<Character>> had, Set<Set<Set<Character>>> next) {
        for (Set<Character> left : had) {
            for (Set<Character> right : had) {
                for (char letter = 'a'; letter <= 'c'; letter++) {
                    Line cut = Line.cut(Line.ground(left), Line.ground(right), letter);
                    if (cut != null && !had.contains(cut.signs)) {
                        Set<Set<Character>> more = new HashSet<>(had);
                        more.add(cut.signs);
                        next.add(more);
                    }
                }
            }
        }
    }

    boolean units(Set<Character> clause) {
        Set<Character> untrue = new HashSet<>(clause);
        boolean more = true;
        while (more) {
            more = false;
            for (Line ground : grounds()) {
                Set<Character> open = new HashSet<>(ground.signs);
                open.removeAll(untrue);
                if (open.size() == 1 && untrue.add(other(open.iterator().next()))) {
                    more = true;
                }
            }
        }
        for (Line ground : grounds()) {
            if (untrue.containsAll(ground.signs)) {
                return true;
            }
        }
        return false;
    }

    boolean follows(Set<Character> clause) {
        for (int m = 0; m < 64; m++) {
            boolean all = true;
            for (Line ground : grounds()) {
                all &= ground.isTrue(m);
            }
            if (all && !Line.ground(clause).isTrue(m)) {
                return false;
            }
        }
        return true;
    }
}
