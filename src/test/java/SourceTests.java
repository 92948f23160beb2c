import java.io.IOException;
import java.lang.reflect.Constructor;
import java.lang.reflect.Field;
import java.lang.reflect.Method;
import java.lang.reflect.Modifier;
import java.nio.file.Files;
import java.nio.file.Path;
import java.util.ArrayList;
import java.util.Arrays;
import java.util.HashSet;
import java.util.List;
import java.util.Set;
import java.util.TreeSet;
import java.util.regex.Matcher;
import java.util.regex.Pattern;

/** The public face of DOC.md by reflection, and the rules of LANGUAGE.md that a look at the source can tell. */
final class SourceTests {
    private final Checks checks = new Checks();

    public static void main(String[] args) throws IOException {
        SourceTests tests = new SourceTests();
        tests.face(Files.readString(Path.of(args[1])));
        tests.members();
        tests.classes();
        tests.source(Files.readString(Path.of(args[0])));
        tests.checks.end();
    }

    /** The methods that the document's Java block tells, each with its exceptions. */
    private void face(String document) {
        String block = document.substring(document.indexOf("```java"), document.indexOf("## Description"));
        Set<String> due = new TreeSet<>();
        Matcher m = Pattern.compile("public (int|float|boolean) (\\w+)\\(([^)]*)\\)(?: throws ([\\w, ]+))?;").matcher(block);
        while (m.find()) {
            String parameters = m.group(3).replaceAll(" \\w+(,|$)", "$1").replace(" ", "");
            Set<String> thrown = new TreeSet<>();
            if (m.group(4) != null) {
                thrown.addAll(Arrays.asList(m.group(4).split(", ")));
            }
            due.add(m.group(1) + " " + m.group(2) + "(" + parameters + ") " + thrown);
        }
        Set<String> got = new TreeSet<>();
        for (Method method : CalendarSync.class.getDeclaredMethods()) {
            if (Modifier.isPublic(method.getModifiers()) && !method.isSynthetic()) {
                got.add(told(method));
            }
        }
        checks.same("methods of the document", 33, due.size());
        checks.holds("the face is " + due + ", got " + got, due.equals(got));
    }

    private static String told(Method method) {
        List<String> parameters = new ArrayList<>();
        for (Class<?> type : method.getParameterTypes()) {
            parameters.add(type.getSimpleName());
        }
        Set<String> thrown = new TreeSet<>();
        for (Class<?> type : method.getExceptionTypes()) {
            thrown.add(type.getSimpleName());
        }
        return method.getReturnType().getSimpleName() + " " + method.getName() + "(" + String.join(",", parameters) + ") " + thrown;
    }

    private void members() {
        checks.holds("public final", Modifier.isPublic(CalendarSync.class.getModifiers())
            && Modifier.isFinal(CalendarSync.class.getModifiers()));
        for (Field field : CalendarSync.class.getDeclaredFields()) {
            boolean isConstant = field.getName().equals("NONE");
            checks.holds("field " + field, isConstant == Modifier.isPublic(field.getModifiers()));
            checks.holds("field " + field, isConstant || Modifier.isPrivate(field.getModifiers()));
        }
        checks.same("constructors", 1, CalendarSync.class.getDeclaredConstructors().length);
        for (Constructor<?> constructor : CalendarSync.class.getDeclaredConstructors()) {
            checks.holds("constructor " + constructor, Modifier.isPublic(constructor.getModifiers()));
        }
        for (Method method : CalendarSync.class.getDeclaredMethods()) {
            int modifiers = method.getModifiers();
            checks.holds("method " + method, Modifier.isPublic(modifiers) || Modifier.isPrivate(modifiers));
        }
    }

    private void classes() {
        Set<String> face = new HashSet<>();
        for (Method method : CalendarSync.class.getDeclaredMethods()) {
            if (Modifier.isPublic(method.getModifiers())) {
                face.add(method.getName());
            }
        }
        Class<?>[] inside = CalendarSync.class.getDeclaredClasses();
        checks.holds("some twelve classes", inside.length + 1 <= 12);
        for (Class<?> one : inside) {
            checks.holds("private static " + one, Modifier.isStatic(one.getModifiers()) && Modifier.isPrivate(one.getModifiers()));
            int fields = 0;
            for (Field field : one.getDeclaredFields()) {
                boolean isStatic = Modifier.isStatic(field.getModifiers());
                fields += isStatic ? 0 : 1;
                checks.holds("static is final " + field, !isStatic || Modifier.isFinal(field.getModifiers()));
            }
            checks.holds("some twenty fields " + one, fields <= 20);
            for (Method method : one.getDeclaredMethods()) {
                checks.holds("no name of the face " + method, !face.contains(method.getName()));
                checks.holds("seven parameters " + method, method.getParameterCount() <= 7);
            }
        }
    }

    private void source(String text) {
        String code = text.replaceAll("(?s)/\\*.*?\\*/", " ").replaceAll("//[^\n]*", " ").replaceAll("\"[^\"\n]*\"", "\"\"");
        for (String word : new String[] {"try", "catch", "finally", "synchronized", "assert", "package", "lambda", "volatile",
            "transient", "native", "instanceof", "Float", "Double", "Object", "System\\.out", "Random", "Thread", "char\\[\\]"}) {
            checks.holds("not used: " + word, !Pattern.compile("\\b" + word + "\\b").matcher(code).find());
        }
        for (String sign : new String[] {"->", "::", "%=", "/=", "@"}) {
            checks.holds("not used: " + sign, !code.contains(sign));
        }
        checks.holds("only one import", code.indexOf("import") == code.lastIndexOf("import"));
        Set<String> library = new TreeSet<>();
        Matcher m = Pattern.compile("\\b(System|Math|Integer|Long|Arrays)\\.(\\w+)").matcher(code);
        while (m.find()) {
            library.add(m.group(1) + "." + m.group(2));
        }
        checks.holds("the library " + library,
            Set.of("System.arraycopy", "Math.max", "Math.min", "Integer.bitCount").containsAll(library));
        m = Pattern.compile("\\bthrow\\b(?! new (IllegalStateException|IllegalArgumentException|IndexOutOfBoundsException"
            + "|NoSuchElementException)\\(\"\"\\);)").matcher(code);
        checks.holds("throw new E(\"a written text\")", !m.find());
        for (int at = 0; at < text.length(); at++) {
            if (text.charAt(at) > 126) {
                checks.holds("signs of the source at " + at, false);
            }
        }
        methodLengths(code);
    }

    private void methodLengths(String code) {
        int start = 0;
        String[] lines = code.split("\n", -1);
        for (int k = 0; k < lines.length; k++) {
            if (lines[k].matches("    (    )?\\S.*\\(.*") && !lines[k].trim().startsWith(".")) {
                start = k;
            }
            if (lines[k].matches("    (    )?}")) {
                checks.holds("some sixty lines at line " + (start + 1), k - start < 60);
            }
        }
    }
}
