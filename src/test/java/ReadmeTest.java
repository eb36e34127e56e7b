import java.io.IOException;
import java.lang.reflect.Array;
import java.lang.reflect.Field;
import java.lang.reflect.Method;
import java.lang.reflect.Modifier;
import java.nio.file.Files;
import java.nio.file.Path;
import java.util.ArrayList;
import java.util.Collections;
import java.util.IdentityHashMap;
import java.util.List;
import java.util.Set;
import java.util.TreeSet;
import java.util.regex.Matcher;
import java.util.regex.Pattern;

/** What README.md tells: its examples, the calls, the constants, the count of objects, the tests. */
public final class ReadmeTest {
    private static final Path README = Path.of("README.md");
    private static final Path DOCUMENT = Path.of("../shared/DOC.md");
    private static final Path TESTS = Path.of("src/test/java");
    private static final String MADE = "BazaarBook book = new BazaarBook();";
    private static final Pattern CALL = Pattern.compile("book\\.(\\w+)\\((.*)\\); +// (-?\\d+)(: .*)?");

    private static final Check c = new Check();

    public static void main(String[] args) throws IOException, ReflectiveOperationException {
        String text = Files.readString(README);
        Set<String> used = new TreeSet<>();
        for (String block : blocks(text)) {
            examples(block, used);
        }
        c.isTrue("there are examples", used.size() > 20);
        calls(text);
        constants(text);
        objects(text);
        tests(text);
        c.end();
    }

    private static List<String> blocks(String text) {
        List<String> found = new ArrayList<>();
        Matcher block = Pattern.compile("(?s)```java\n(.*?)```").matcher(text);
        while (block.find()) {
            found.add(block.group(1));
        }
        return found;
    }

    private static void examples(String block, Set<String> used) throws ReflectiveOperationException {
        BazaarBook book = new BazaarBook();
        for (String line : block.split("\n")) {
            Matcher call = CALL.matcher(line);
            if (call.matches()) {
                used.add(call.group(1));
                long answer = answerOf(book, call.group(1), call.group(2));
                c.due("README: " + line, answer, Long.parseLong(call.group(3)));
            } else {
                c.isTrue("README: a line that can't be read: " + line, line.equals(MADE));
            }
        }
    }

    private static long answerOf(BazaarBook book, String name, String told) throws ReflectiveOperationException {
        String[] words = told.isEmpty() ? new String[0] : told.split(", ");
        for (Method method : BazaarBook.class.getMethods()) {
            if (method.getName().equals(name) && method.getParameterCount() == words.length) {
                Object[] values = new Object[words.length];
                for (int i = 0; i < words.length; i++) {
                    values[i] = valueOf(words[i]);
                }
                return ((Number) method.invoke(book, values)).longValue();
            }
        }
        throw new NoSuchMethodException("README: " + name + "(" + told + ")");
    }

    private static Object valueOf(String word) throws ReflectiveOperationException {
        if (word.equals("true") || word.equals("false")) {
            return word.equals("true");
        }
        if (word.startsWith("BazaarBook.")) {
            return BazaarBook.class.getField(word.substring("BazaarBook.".length())).getInt(null);
        }
        return word.startsWith("'") ? (int) word.charAt(1) : (int) Integer.decode(word);
    }

    /** The table has each call of the document's face, as it is told there, and no other. */
    private static void calls(String text) throws IOException {
        List<String> due = new ArrayList<>();
        Matcher face = Pattern.compile("    public (?:int|long) (\\w+)\\((.*)\\);").matcher(Files.readString(DOCUMENT));
        while (face.find()) {
            due.add(face.group(1) + "(" + face.group(2).replaceAll("(int|boolean) ", "") + ")");
        }
        List<String> told = new ArrayList<>();
        Matcher row = Pattern.compile("(?m)^\\| `(\\w+\\(.*?\\))` \\|").matcher(text);
        while (row.find()) {
            told.add(row.group(1));
        }
        c.isTrue("the document has a face", due.size() == 33);
        c.isTrue("README: the calls are the document's: " + told, told.equals(due));
    }

    private static void constants(String text) throws ReflectiveOperationException {
        for (int by = BazaarBook.FULL; by <= BazaarBook.MISSING; by++) {
            Matcher row = Pattern.compile("(?m)^\\| `(\\w+)` \\| " + by + " \\|").matcher(text);
            boolean told = row.find();
            c.isTrue("README: a constant is " + by, told);
            if (told) {
                c.due("README: " + row.group(1), by, BazaarBook.class.getField(row.group(1)).getInt(null));
            }
        }
    }

    private static void objects(String text) throws ReflectiveOperationException {
        Set<Object> seen = Collections.newSetFromMap(new IdentityHashMap<>());
        long elements = count(new BazaarBook(), seen);
        Matcher told = Pattern.compile("\\((\\d+) of them with\\s+([\\d,]+) fields and elements\\)").matcher(text);
        boolean found = told.find();
        c.isTrue("README: tells how many objects there are", found);
        if (found) {
            c.due("README: objects and arrays", Long.parseLong(told.group(1)), seen.size());
            c.due("README: fields and elements", Long.parseLong(told.group(2).replace(",", "")), elements);
        }
    }

    /** Answers how many fields and elements an object has, with all that it holds. */
    private static long count(Object object, Set<Object> seen) throws ReflectiveOperationException {
        if (object == null || !seen.add(object)) {
            return 0;
        }
        long all = 0;
        if (object.getClass().isArray()) {
            int length = Array.getLength(object);
            boolean flat = object.getClass().getComponentType().isPrimitive();
            for (int i = 0; i < length && !flat; i++) {
                all += count(Array.get(object, i), seen);
            }
            return all + length;
        }
        for (Field field : object.getClass().getDeclaredFields()) {
            if (!Modifier.isStatic(field.getModifiers())) {
                field.setAccessible(true);
                all += 1 + (field.getType().isPrimitive() ? 0 : count(field.get(object), seen));
            }
        }
        return all;
    }

    private static void tests(String text) throws IOException {
        Set<String> told = new TreeSet<>();
        Matcher row = Pattern.compile("(?m)^\\| `(\\w+Test)` \\|").matcher(text);
        while (row.find()) {
            told.add(row.group(1));
        }
        Set<String> there = new TreeSet<>();
        try (var files = Files.list(TESTS)) {
            files.map(file -> file.getFileName().toString())
                    .filter(name -> name.endsWith("Test.java"))
                    .forEach(name -> there.add(name.replace(".java", "")));
        }
        c.isTrue("README: the tests are those that are there: " + there, told.equals(there));
    }
}
