import java.util.regex.Matcher;
import java.util.regex.Pattern;

/** The first wrong code of a text, by patterns: the longest beginning that some pattern allows. */
final class SlowReader {
    private static final Pattern GROUND = Pattern.compile("g([a-fA-F]*)");
    private static final Pattern CUT = Pattern.compile("c(?:(\\d{1,2})(?:(,)(?:(\\d{1,2})([a-f])?)?)?)?");

    /** -1: it is a text. */
    static int firstWrong(String text) {
        Slow made = new Slow();
        int at = 0;
        for (int item = 0; item < 16; item++) {
            Matcher ground = GROUND.matcher(text).region(at, text.length());
            Matcher cut = CUT.matcher(text).region(at, text.length());
            if (ground.lookingAt()) {
                String signs = ground.group(1);
                int right = unlike(signs);
                made.lines.add(Slow.Line.ground(Slow.signs(signs.substring(0, right))));
                at = ground.start(1) + right;
            } else if (cut.lookingAt()) {
                int wrong = wrongOf(cut, made);
                if (wrong >= 0) {
                    return wrong;
                }
                at = cut.end();
            } else {
                return at;
            }
            if (at == text.length()) {
                return -1;
            }
            if (text.charAt(at) != ';' || item == 15) {
                return at;
            }
            at++;
        }
        return at;
    }

    /** How many signs there are ahead of a letter's second one. */
    private static int unlike(String signs) {
        String small = signs.toLowerCase();
        for (int k = 0; k < signs.length(); k++) {
            if (small.indexOf(small.charAt(k)) < k) {
                return k;
            }
        }
        return signs.length();
    }

    private static int wrongOf(Matcher cut, Slow made) {
        for (int group = 1; group <= 3; group += 2) {
            if (cut.group(group) != null && Integer.parseInt(cut.group(group)) >= made.lines.size()) {
                return cut.start(group);
            }
        }
        if (cut.group(4) == null) {
            return cut.end();
        }
        Slow.Line line = Slow.Line.cut(made.lines.get(Integer.parseInt(cut.group(1))),
            made.lines.get(Integer.parseInt(cut.group(3))), cut.group(4).charAt(0));
        if (line == null) {
            return cut.start(4);
        }
        made.lines.add(line);
        return -1;
    }
}
