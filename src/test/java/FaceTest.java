import java.io.IOException;
import java.lang.reflect.Constructor;
import java.lang.reflect.Field;
import java.lang.reflect.Method;
import java.lang.reflect.Modifier;
import java.nio.file.Files;
import java.nio.file.Path;
import java.util.ArrayList;
import java.util.HashSet;
import java.util.List;
import java.util.Set;
import java.util.TreeSet;
import java.util.regex.Matcher;
import java.util.regex.Pattern;

/** The public face, and those rules of LANGUAGE.md that can be seen from the text. */
public final class FaceTest {
    private static final Path SOURCE = Path.of("src/main/java/BazaarBook.java");
    private static final String[] FACE = {
        "int shop(int,int,int)", "int look(int,int)", "int has(int,int,int)", "int sale(int,int,int)",
        "int heir(int,int,int)", "int disown(int)", "int death(int)", "int let(int,int,int,int)",
        "int pawn(int,int,int)", "int pawned(int,int,int)", "int pay(int,int)", "int sold(int,int,int)",
        "int first(int,int)", "long purse(int)", "int feed(int,int)", "int wipe()", "int rule(int,int)",
        "int may(int,int,int)", "int why(int,int,int)", "int run(int)", "int repair(int,int)",
        "int takes(int,int)", "int plan(int)", "int planned(int,boolean)", "int burns(int,int,int)",
        "int lost(int,int,int)", "int stop(int,int,int)", "int count(int)", "int lay(int,int)",
        "int tear()", "int row(int)", "int copy(int,int,int)", "int status(int)",
    };
    private static final String[] CONSTANTS = {
        "NONE", "MISSING", "BEYOND", "BELOW", "KIND", "COPY", "NO", "FULL",
    };
    private static final String[] BANNED = {
        "throw", "throws", "try", "catch", "finally", "synchronized", "assert", "enum", "package", "native",
        "volatile", "transient", "Thread", "Exception", "Exact", "protected", "hashCode", "toString", "instanceof",
    };

    private static final Check c = new Check();

    public static void main(String[] args) throws IOException {
        members();
        classesInside();
        String code = withoutComments(Files.readString(SOURCE));
        words(code);
        library(code);
        methods(code);
        madeInConstructors(code);
        c.end();
    }

    private static void members() {
        Class<?> book = BazaarBook.class;
        c.isTrue("the class is public and final", book.getModifiers() == (Modifier.PUBLIC | Modifier.FINAL));
        Set<String> shown = new TreeSet<>();
        for (Method method : book.getDeclaredMethods()) {
            if (!Modifier.isPrivate(method.getModifiers())) {
                List<String> types = new ArrayList<>();
                for (Class<?> type : method.getParameterTypes()) {
                    types.add(type.getName());
                }
                shown.add(method.getReturnType() + " " + method.getName() + "(" + String.join(",", types) + ")");
                c.isTrue(method + " is public and not static", method.getModifiers() == Modifier.PUBLIC);
            }
        }
        c.isTrue("the methods are the document's: " + shown, shown.equals(new TreeSet<>(List.of(FACE))));
        Set<String> fields = new TreeSet<>();
        for (Field field : book.getDeclaredFields()) {
            if (!Modifier.isPrivate(field.getModifiers())) {
                fields.add(field.getName());
                c.isTrue(field + " is a constant",
                        field.getModifiers() == (Modifier.PUBLIC | Modifier.STATIC | Modifier.FINAL));
            }
        }
        c.isTrue("the constants are the document's: " + fields, fields.equals(new TreeSet<>(List.of(CONSTANTS))));
        Constructor<?>[] made = book.getDeclaredConstructors();
        c.isTrue("one public constructor without arguments", made.length == 1
                && made[0].getParameterCount() == 0 && Modifier.isPublic(made[0].getModifiers()));
    }

    private static void classesInside() {
        Class<?>[] inside = BazaarBook.class.getDeclaredClasses();
        c.isTrue("at most some twelve classes", inside.length < 12);
        Set<String> face = new HashSet<>();
        for (String method : FACE) {
            face.add(method.substring(method.indexOf(' ') + 1, method.indexOf('(')));
        }
        for (Class<?> type : inside) {
            c.isTrue(type + " is static", Modifier.isStatic(type.getModifiers()));
            c.isTrue(type + " has some twenty fields at most", type.getDeclaredFields().length <= 20);
            for (Method method : type.getDeclaredMethods()) {
                c.isTrue(method + " bears no public name", !face.contains(method.getName()));
                c.isTrue(method + " takes at most seven", method.getParameterCount() <= 7);
            }
            for (Field field : type.getDeclaredFields()) {
                c.isTrue(field + " is final if static", !Modifier.isStatic(field.getModifiers())
                        || Modifier.isFinal(field.getModifiers()));
            }
        }
        for (Method method : BazaarBook.class.getDeclaredMethods()) {
            c.isTrue(method + " bears no public name",
                    !Modifier.isPrivate(method.getModifiers()) || !face.contains(method.getName()));
        }
    }

    private static void words(String code) {
        for (String word : BANNED) {
            c.isTrue("no " + word, !Pattern.compile("\\b" + word + "\\b").matcher(code).find());
        }
        c.isTrue("no lambda or reference", !code.contains("->") && !code.contains("::"));
        c.isTrue("no while without a counter", !Pattern.compile("\\bwhile\\b").matcher(code).find());
        Matcher imports = Pattern.compile("import ([\\w.]+);").matcher(code);
        while (imports.find()) {
            c.isTrue("import of " + imports.group(1), imports.group(1).equals("java.util.Arrays"));
        }
        for (int i = 0; i < code.length(); i++) {
            if (code.charAt(i) > 126) {
                c.isTrue("signs 1 to 126 at " + i, false);
            }
        }
    }

    /** Rule 4: what is named of the library is what LANGUAGE.md lists of it. */
    private static void library(String code) {
        Set<String> listed = Set.of("Math.min", "Math.max", "Integer.bitCount", "Arrays.fill", "System.arraycopy");
        Matcher named = Pattern.compile("\\b(Math|Integer|Long|Arrays|System|String|List)\\.(\\w+)").matcher(
                code.replaceAll("import [^;]+;", ""));
        while (named.find()) {
            c.isTrue(named.group() + " is listed", listed.contains(named.group()));
        }
    }

    private static void methods(String code) {
        String[] lines = code.split("\n");
        int begin = -1;
        String indent = "";
        for (int i = 0; i < lines.length; i++) {
            Matcher head = Pattern.compile("^( +)(public|private) .*\\) \\{$").matcher(lines[i]);
            if (head.matches()) {
                begin = i;
                indent = head.group(1);
            } else if (begin >= 0 && lines[i].equals(indent + "}")) {
                c.isTrue("at most sixty lines: " + lines[begin].trim(), i - begin <= 60);
                begin = -1;
            }
        }
    }

    /** Rule 12: what is made is made once, with the object; no call makes anything. */
    private static void madeInConstructors(String code) {
        String method = "";
        for (String line : code.split("\n")) {
            Matcher head = Pattern.compile("^ +(?:public|private) (.*\\)) \\{$").matcher(line);
            if (head.matches()) {
                boolean constructor = head.group(1).matches("\\w+\\(.*");
                method = constructor ? "" : head.group(1);
            } else if (line.matches(" +private (static )?final .*")) {
                method = "";
            }
            c.isTrue("nothing is made in " + method, method.isEmpty() || !line.matches(".*\\bnew\\b.*"));
        }
    }

    private static String withoutComments(String text) {
        return text.replaceAll("(?s)/\\*.*?\\*/", "").replaceAll("//[^\n]*", "");
    }
}
