import java.lang.reflect.Constructor;
import java.lang.reflect.Field;
import java.lang.reflect.Method;
import java.lang.reflect.Modifier;
import java.nio.file.Files;
import java.nio.file.Path;
import java.util.ArrayList;
import java.util.Arrays;
import java.util.HashSet;
import java.util.List;
import java.util.Set;
import java.util.TreeSet;
import java.util.regex.Matcher;
import java.util.regex.Pattern;

/** The public face word for word, and the rules of LANGUAGE.md that reflection or the source can show. */
public final class SourceTest {
    private static final String FACE = "int feed(int,int,int,int,int)|int script(int)|int fault()|int where()"
            + "|int about(int)|int letter(int,int)|int code(int,int,int)|int parts(int,int)|int spelt(int,int)"
            + "|int key(int)|int brk()|int type(int)|int back()|int del()|int goes(int)|int tidy()|int codes(int)"
            + "|int undo()|int at(int)|int of(int,int)|int item(int,int)|int within()|int needed(int)|int bare()"
            + "|int would(int,int)|int seek(int,int)|int ranked(int)|long ways(int,int)|long whole(int)"
            + "|int told(int,int)|int size()|int trouble()";
    private static final String[] BARRED = {"->", "::", "synchronized", "finally", "assert", "System.out", "Random",
        "currentTimeMillis", "nanoTime", "Exact(", "catch", "hashCode", "toString", "Object", "Thread", "instanceof",
        "@SuppressWarnings", "NaN", "stream"};

    private SourceTest() {
    }

    public static void main(String[] args) throws Exception {
        face();
        nested();
        source(Files.readString(Path.of("src/main/java/StolenFinals.java")));
        Check.end("SourceTest");
    }

    private static String signature(Method method) {
        List<String> types = new ArrayList<>();
        for (Class<?> type : method.getParameterTypes()) {
            types.add(type.getName());
        }
        return method.getReturnType().getName() + " " + method.getName() + "(" + String.join(",", types) + ")";
    }

    private static boolean isHidden(int modifiers) {
        return Modifier.isPrivate(modifiers);
    }

    private static void face() throws Exception {
        Class<?> type = StolenFinals.class;
        Check.holds("public final", Modifier.isPublic(type.getModifiers()) && Modifier.isFinal(type.getModifiers()));
        Check.due("constructors", type.getDeclaredConstructors().length, 1);
        Constructor<?> constructor = type.getConstructor();
        Check.holds("public constructor", Modifier.isPublic(constructor.getModifiers()));
        Set<String> open = new TreeSet<>();
        for (Method method : type.getDeclaredMethods()) {
            if (!isHidden(method.getModifiers())) {
                Check.holds(method + " is public", Modifier.isPublic(method.getModifiers()));
                Check.holds(method + " is no static one", !Modifier.isStatic(method.getModifiers()));
                open.add(signature(method));
            }
        }
        Check.due("the face", open.toString(), new TreeSet<>(Arrays.asList(FACE.split("\\|"))).toString());
        Class<?>[] thrown = type.getMethod("told", int.class, int.class).getExceptionTypes();
        Check.due("told() throws", Arrays.toString(thrown), "[class java.util.NoSuchElementException]");
        for (Field field : type.getDeclaredFields()) {
            Check.holds(field + " is hidden", isHidden(field.getModifiers()) || field.getName().equals("NONE"));
        }
        int none = type.getField("NONE").getModifiers();
        Check.holds("NONE is a public constant", Modifier.isStatic(none) && Modifier.isFinal(none));
    }

    private static void nested() {
        Set<String> names = new HashSet<>();
        for (Method method : StolenFinals.class.getDeclaredMethods()) {
            if (!isHidden(method.getModifiers())) {
                names.add(method.getName());
            }
        }
        List<Class<?>> all = new ArrayList<>(Arrays.asList(StolenFinals.class.getDeclaredClasses()));
        Check.holds("at most twelve classes", all.size() + 1 <= 12);
        for (Class<?> type : all) {
            int modifiers = type.getModifiers();
            Check.holds(type + " is static and hidden", Modifier.isStatic(modifiers) && Modifier.isPrivate(modifiers));
            for (Method method : type.getDeclaredMethods()) {
                Check.holds(method + " bears no public name", !names.contains(method.getName()));
            }
        }
        for (Method method : StolenFinals.class.getDeclaredMethods()) {
            boolean hidden = isHidden(method.getModifiers());
            Check.holds(method + " bears no public name", !hidden || !names.contains(method.getName()));
        }
        all.add(StolenFinals.class);
        for (Class<?> type : all) {
            int fields = 0;
            for (Field field : type.getDeclaredFields()) {
                boolean fixed = Modifier.isStatic(field.getModifiers());
                Check.holds(field + " is no static state", !fixed || Modifier.isFinal(field.getModifiers()));
                fields += fixed ? 0 : 1;
            }
            Check.holds(type + " has at most twenty fields", fields <= 20);
            for (Method method : type.getDeclaredMethods()) {
                Check.holds(method + " takes at most seven", method.getParameterCount() <= 7);
            }
        }
    }

    private static void source(String text) {
        Set<String> imports = new TreeSet<>();
        Matcher imported = Pattern.compile("(?m)^import (.*);$").matcher(text);
        while (imported.find()) {
            imports.add(imported.group(1));
        }
        Check.due("imports", imports.toString(), "[java.util.Arrays, java.util.NoSuchElementException]");
        for (String barred : BARRED) {
            Check.holds("no " + barred, !text.contains(barred));
        }
        Matcher calls = Pattern.compile("\\b(Arrays|Math|Integer|Long|System)\\.(\\w+)").matcher(text);
        while (calls.find()) {
            Check.holds(calls.group() + " is in the list", calls.group().equals("Arrays.fill")
                    || calls.group().equals("Math.min"));
        }
        Matcher thrown = Pattern.compile("throw new (\\w+)").matcher(text);
        while (thrown.find()) {
            Check.due("thrown", thrown.group(1), "NoSuchElementException");
        }
        Check.holds("ASCII alone", text.chars().allMatch(c -> c < 128));
        promise1TheConstructorHandsOutNothing(text);
        lengths(text.split("\n"));
    }

    /** Rule 12: what a field begins with is made of numbers and constants, never of another field or of this. */
    private static void promise1TheConstructorHandsOutNothing(String text) {
        Matcher made = Pattern.compile("(?m)^ {4,8}private (?:final )?\\w+ \\w+ = new (\\w+)\\((.*)\\);$").matcher(text);
        int found = 0;
        while (made.find()) {
            found++;
            Check.holds("nothing is handed to new " + made.group(1), made.group(2).matches("[0-9A-Z_]*"));
        }
        Check.holds("fields that hold objects were found", found > 10);
        Check.holds("no object hands itself out", !Pattern.compile("[(,] *this *[,)]").matcher(text).find());
    }

    /** A method's lines stand between a line that opens it and the brace of the same depth. */
    private static void lengths(String[] lines) {
        Pattern head = Pattern.compile("( {4}| {8})(?!private static final class)\\S.*\\) (throws \\w+ )?\\{");
        for (int i = 0; i < lines.length; i++) {
            Matcher method = head.matcher(lines[i]);
            if (method.matches()) {
                int end = i;
                while (end < lines.length && !lines[end].equals(method.group(1) + "}")) {
                    end++;
                }
                Check.holds(lines[i].trim() + " has at most sixty lines", end - i < 60);
            }
        }
    }
}
