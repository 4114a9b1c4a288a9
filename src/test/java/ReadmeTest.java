import java.io.IOException;
import java.lang.reflect.Field;
import java.lang.reflect.Method;
import java.lang.reflect.Modifier;
import java.nio.file.Files;
import java.nio.file.Path;
import java.util.HashMap;
import java.util.Map;
import java.util.regex.Matcher;
import java.util.regex.Pattern;

/** README.md: its example answers what stands behind each call, and it tells every call and every answer below 0. */
public final class ReadmeTest {
    private static final Due DUE = new Due("ReadmeTest");
    private static final Pattern CALL = Pattern.compile("(?:int (\\w) = )?x\\.(\\w+)\\((.*)\\);\\s*// (-?\\d+|LOST)\\b.*");
    private static final Pattern TEXT = Pattern.compile("String text = \"(.*)\";");
    private static final String PUTS = "x.put(0, i, text.charAt(i));";

    public static void main(String[] args) throws Exception {
        String page = Files.readString(Path.of("README.md"));
        example(page);
        everyCall(page);
        everyAnswer(page);
        howToRunTests(page);
        DUE.end();
    }

    private static void example(String page) throws Exception {
        Matcher block = Pattern.compile("(?s)```java\n(.*?)```").matcher(page);
        DUE.holds("there is an example", block.find());
        ShortProofs x = new ShortProofs();
        Map<String, Integer> names = new HashMap<>();
        String text = "";
        int asked = 0;
        for (String row : block.group(1).split("\n")) {
            Matcher call = CALL.matcher(row);
            Matcher begin = TEXT.matcher(row);
            if (begin.matches()) {
                text = begin.group(1);
                names.put("text.length()", text.length());
            } else if (call.matches()) {
                asked++;
                long got = ask(x, call.group(2), call.group(3), names);
                DUE.is(row, got, call.group(4).equals("LOST") ? Due.LOST : Long.parseLong(call.group(4)));
                names.put(call.group(1), (int) got);
            } else if (row.strip().equals(PUTS)) {
                for (int i = 0; i < text.length(); i++) {
                    DUE.is("put " + i, x.put(0, i, text.charAt(i)), 1);
                }
            } else {
                DUE.holds("a row that asks nothing: " + row, row.isEmpty() || row.startsWith("//") || row.equals("}")
                    || row.startsWith("for (") || row.equals("ShortProofs x = new ShortProofs();"));
            }
        }
        DUE.holds("the example asks", asked >= 20);
    }

    private static long ask(ShortProofs x, String name, String told, Map<String, Integer> names) throws Exception {
        String[] words = told.isEmpty() ? new String[0] : told.split(", ");
        Object[] numbers = new Object[words.length];
        for (int k = 0; k < words.length; k++) {
            numbers[k] = names.containsKey(words[k]) ? names.get(words[k]) : Integer.valueOf(words[k]);
        }
        for (Method method : ShortProofs.class.getMethods()) {
            if (method.getName().equals(name) && method.getParameterCount() == numbers.length) {
                return ((Number) method.invoke(x, numbers)).longValue();
            }
        }
        throw new IllegalStateException("no such call: " + name);
    }

    private static void everyCall(String page) {
        for (Method method : ShortProofs.class.getDeclaredMethods()) {
            if (Modifier.isPublic(method.getModifiers())) {
                DUE.holds("the table of calls has " + method.getName(),
                    Pattern.compile("\n\\| [^|]*`" + method.getName() + "`[^|]* \\|").matcher(page).find());
            }
        }
    }

    private static void everyAnswer(String page) throws IllegalAccessException {
        for (Field field : ShortProofs.class.getDeclaredFields()) {
            if (Modifier.isPublic(field.getModifiers())) {
                String number = field.getName().equals("LOST") ? "" : field.getInt(null) + " ";
                DUE.holds("the table of answers has " + field.getName(),
                    page.contains("\n| " + number + "`" + field.getName() + "` |"));
            }
        }
        String[] faults = {"NULL", "CAST", "INDEX", "SIZE"};
        for (int fault = 1; fault <= 4; fault++) {
            DUE.holds("the table of answers has fault " + fault,
                page.contains("\n| " + (-10 - fault) + " | fault " + fault + ", " + faults[fault - 1] + ": "));
        }
        DUE.holds("the table of answers has wrong texts", page.contains("\n| -100 and less | `text`: "));
    }

    private static void howToRunTests(String page) throws IOException {
        DUE.holds("how tests are run", page.contains("\n    .ci/run\n"));
        Matcher name = Pattern.compile("`(\\w+Test)`").matcher(page);
        while (name.find()) {
            DUE.holds("there is " + name.group(1), Files.exists(Path.of("src/test/java/" + name.group(1) + ".java")));
        }
    }
}
