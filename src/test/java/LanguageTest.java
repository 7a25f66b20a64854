import java.lang.reflect.Constructor;
import java.lang.reflect.Field;
import java.lang.reflect.Method;
import java.lang.reflect.Modifier;
import java.nio.file.Files;
import java.nio.file.Path;
import java.util.ArrayList;
import java.util.List;
import java.util.Set;
import java.util.TreeSet;
import java.util.regex.Matcher;
import java.util.regex.Pattern;

/** The face of the document, and the rules of LANGUAGE.md that can be seen from outside. */
public final class LanguageTest {
    private static final Check CHECK = new Check("LanguageTest");
    private static int recursions;

    public static void main(String[] args) throws Exception {
        String source = Files.readString(Path.of("src/main/java/LetMe.java"));
        face(Files.readString(Path.of("../shared/DOC.md")));
        members();
        words(source);
        lengths(source);
        CHECK.finish();
    }

    private static void face(String document) {
        Set<String> wants = new TreeSet<>();
        Matcher lines = Pattern.compile("(?m)^    public ([a-z]+) (\\w+)\\((.*)\\);$").matcher(document);
        while (lines.find()) {
            String kinds = lines.group(3).replaceAll("(\\w+) \\w+", "$1").replace(" ", "");
            wants.add(lines.group(1) + " " + lines.group(2) + "(" + kinds + ")");
        }
        Set<String> got = new TreeSet<>();
        for (Method method : LetMe.class.getDeclaredMethods()) {
            if (!Modifier.isPrivate(method.getModifiers())) {
                StringBuilder kinds = new StringBuilder();
                for (Class<?> kind : method.getParameterTypes()) {
                    kinds.append(kinds.length() == 0 ? "" : ",").append(kind.getName());
                }
                got.add(method.getReturnType().getName() + " " + method.getName() + "(" + kinds + ")");
                CHECK.due("public and no static: " + method, Modifier.isPublic(method.getModifiers())
                    && !Modifier.isStatic(method.getModifiers()), true);
            }
        }
        CHECK.due("the face has 63 methods", wants.size(), 63);
        CHECK.due("the face: " + got + " for " + wants, got.equals(wants), true);
        CHECK.due("NONE", LetMe.NONE, -1);
        CHECK.due("final", Modifier.isFinal(LetMe.class.getModifiers()), true);
    }

    private static void members() {
        Set<String> open = new TreeSet<>();
        for (Method method : LetMe.class.getDeclaredMethods()) {
            if (Modifier.isPublic(method.getModifiers())) {
                open.add(method.getName());
            }
        }
        for (Constructor<?> constructor : LetMe.class.getDeclaredConstructors()) {
            CHECK.due("constructor", constructor.getParameterCount(), 0);
        }
        for (Field field : LetMe.class.getDeclaredFields()) {
            CHECK.due("field " + field, Modifier.isPrivate(field.getModifiers()) || field.getName().equals("NONE"), true);
        }
        List<Class<?>> all = new ArrayList<>(List.of(LetMe.class.getDeclaredClasses()));
        all.add(LetMe.class);
        CHECK.due("at most twelve classes", all.size() <= 12, true);
        for (Class<?> each : all) {
            CHECK.due("static: " + each, each == LetMe.class || Modifier.isStatic(each.getModifiers()), true);
            int fields = 0;
            for (Field field : each.getDeclaredFields()) {
                boolean isStatic = Modifier.isStatic(field.getModifiers());
                fields += isStatic ? 0 : 1;
                CHECK.due("static is final: " + field, !isStatic || Modifier.isFinal(field.getModifiers()), true);
                CHECK.due("static is plain: " + field, !isStatic || field.getType().isPrimitive()
                    || field.getType() == String.class, true);
            }
            CHECK.due("at most twenty fields: " + each, fields <= 20, true);
            for (Method method : each.getDeclaredMethods()) {
                CHECK.due("seven parameters: " + method, method.getParameterCount() <= 7, true);
                boolean isOpen = each == LetMe.class && Modifier.isPublic(method.getModifiers());
                CHECK.due("a name of its own: " + method, isOpen || !open.contains(method.getName()), true);
            }
        }
    }

    private static void words(String source) {
        String code = source.replaceAll("(?s)/\\*.*?\\*/", "").replaceAll("//[^\n]*", "");
        for (String word : List.of("throw", "throws", "try", "catch", "synchronized", "assert", "volatile", "native", "transient",
            "Object", "var", "protected", "Exact", "Thread", "equals", "hashCode", "toString", "Math.random", "nanoTime")) {
            CHECK.due("no " + word, Pattern.compile("\\b" + word + "\\b").matcher(code).find(), false);
        }
        CHECK.due("no lambda", code.contains("->"), false);
        CHECK.due("no method reference", code.contains("::"), false);
        Matcher imports = Pattern.compile("import ([\\w.*]+);").matcher(code);
        while (imports.find()) {
            CHECK.due("import " + imports.group(1), Set.of("java.util.Arrays", "java.util.ArrayList", "java.util.List").contains(imports.group(1)), true);
        }
        Matcher library = Pattern.compile("\\b(System|Arrays|Math|Integer|Long)\\.(\\w+)").matcher(code);
        Set<String> allowed = Set.of("System.arraycopy", "Arrays.fill", "Arrays.copyOf", "Arrays.copyOfRange", "Math.min", "Math.max",
            "Math.abs", "Integer.bitCount");
        while (library.find()) {
            CHECK.due("library " + library.group(), allowed.contains(library.group()), true);
        }
        for (int i = 0; i < source.length(); i++) {
            char sign = source.charAt(i);
            if (sign != '\n' && (sign < 32 || sign > 126)) {
                CHECK.due("a plain sign at " + i, sign, ' ');
            }
        }
    }

    /** A method begins at a line that ends in ") {" behind 4 or 8 blanks, and ends at a lone bracket behind as many. */
    private static void lengths(String source) {
        String[] lines = source.split("\n");
        int longest = 0;
        for (int i = 0; i < lines.length; i++) {
            Matcher begins = Pattern.compile("^( {4}| {8})\\w.*\\) \\{$").matcher(lines[i]);
            if (!begins.find()) {
                continue;
            }
            int end = i;
            while (!lines[end].equals(begins.group(1) + "}")) {
                end++;
            }
            longest = Math.max(longest, end - i + 1);
            callsItself(lines, i, end);
            CHECK.due("at most sixty lines: " + lines[i].trim(), end - i + 1 <= 60, true);
        }
        CHECK.due("methods were seen", longest > 20, true);
        CHECK.due("one method calls itself", recursions, 1);
    }

    /** Rule 8: a method that calls itself is private and static. */
    private static void callsItself(String[] lines, int begin, int end) {
        Matcher name = Pattern.compile("(\\w+)\\(").matcher(lines[begin]);
        if (!name.find()) {
            return;
        }
        Pattern call = Pattern.compile("(?<![\\w.])(?<!new )" + name.group(1) + "\\(");
        for (int i = begin + 1; i < end; i++) {
            if (call.matcher(lines[i]).find()) {
                recursions++;
                CHECK.due("private and static, as it calls itself: " + lines[begin].trim(), lines[begin].contains("private static"), true);
                return;
            }
        }
    }
}
