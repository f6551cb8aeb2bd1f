import java.lang.reflect.Method;
import java.lang.reflect.Modifier;
import java.nio.file.Files;
import java.nio.file.Path;
import java.util.regex.Matcher;
import java.util.regex.Pattern;

/** README.md's example answers what it says, and README.md names every call. */
public final class ReadmeTest {
    private static final Pattern CALL = Pattern.compile("(?m)^x\\.(\\w+)\\((.*?)\\);\\s*// (-?\\d+)");

    private ReadmeTest() {
    }

    public static void main(String[] args) throws Exception {
        String text = Files.readString(Path.of("README.md"));
        example(text.substring(text.indexOf("```java"), text.indexOf("```", text.indexOf("```java") + 3)));
        names(text.substring(text.indexOf("### THE TAPE"), text.indexOf("## How to run")));
        Check.holds("how to run the tests", text.contains(".ci/run"));
        Check.end("ReadmeTest");
    }

    private static void example(String code) {
        StolenFinals x = new StolenFinals();
        Matcher call = CALL.matcher(code);
        int calls = 0;
        while (call.find()) {
            calls++;
            String what = call.group(1) + "(" + call.group(2) + ")";
            Check.due(what, Face.call(x, call.group(1), numbers(call.group(2))), Long.parseLong(call.group(3)));
        }
        Check.due("calls of the example that have an answer", calls, code.lines().filter(l -> l.startsWith("x.")).count());
        Check.holds("the example has calls", calls > 0);
    }

    private static int[] numbers(String list) {
        String[] words = list.isBlank() ? new String[0] : list.split(",");
        int[] numbers = new int[words.length];
        for (int i = 0; i < words.length; i++) {
            String word = words[i].trim();
            numbers[i] = word.startsWith("'") ? word.charAt(1) : Long.decode(word).intValue();
        }
        return numbers;
    }

    private static void names(String text) {
        for (Method method : StolenFinals.class.getDeclaredMethods()) {
            if (Modifier.isPublic(method.getModifiers())) {
                Check.holds("README.md names " + method.getName(),
                        Pattern.compile("`" + method.getName() + "[`(]").matcher(text).find());
            }
        }
    }
}
