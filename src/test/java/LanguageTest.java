import java.io.IOException;
import java.lang.reflect.Field;
import java.lang.reflect.Method;
import java.lang.reflect.Modifier;
import java.nio.file.Files;
import java.nio.file.Path;
import java.util.ArrayList;
import java.util.List;
import java.util.Set;
import java.util.TreeSet;
import java.util.regex.Matcher;
import java.util.regex.Pattern;

/** What of ../shared/LANGUAGE.md can be told from the class's file and its face. */
public final class LanguageTest {
    private static final Set<String> FACE = new TreeSet<>(List.of(
        "int feed(int,int,int,int,int)", "int end(int)", "int yard()", "int rule()", "int ship(int,int)",
        "int plank(int,int)", "int voyage(int,int)", "boolean move(int,int)", "int days(int,int)",
        "int lacks(int,int)", "int together(int)", "int cut(int,int)", "int most(int)", "int willDo(int)",
        "int same(int,int)", "int unlike()", "int wreck(int,int)", "int dealt(int)", "int ahead(int,int,int)",
        "int seed(int)", "int years(int,int,int,int,int)", "int count(int)", "int image(int)", "int back(int)"));

    public static void main(String[] args) throws IOException {
        Checks c = new Checks();
        String source = Files.readString(Path.of("src/main/java/NineTimbers.java"));
        face(c);
        nested(c);
        words(c, source);
        methodLengths(c, source);
        c.close();
    }

    private static void face(Checks c) {
        Set<String> found = new TreeSet<>();
        Set<String> names = new TreeSet<>();
        for (Method m : NineTimbers.class.getDeclaredMethods()) {
            if (Modifier.isPublic(m.getModifiers())) {
                found.add(told(m));
                names.add(m.getName());
            } else {
                c.due(m + " is private", Modifier.isPrivate(m.getModifiers()), true);
            }
        }
        c.due("the face is " + found, found.equals(FACE), true);
        for (Field f : NineTimbers.class.getDeclaredFields()) {
            boolean isNone = f.getName().equals("NONE");
            c.due(f + " is private unless NONE", isNone || Modifier.isPrivate(f.getModifiers()), true);
        }
        for (Class<?> k : classes()) {
            for (Method m : k.getDeclaredMethods()) {
                boolean ofFace = k == NineTimbers.class && Modifier.isPublic(m.getModifiers());
                c.due(m + " bears no name of the face", ofFace || !names.contains(m.getName()), true);
                c.due(m + " takes seven at most", m.getParameterCount() <= 7, true);
            }
        }
    }

    private static String told(Method m) {
        List<String> types = new ArrayList<>();
        for (Class<?> t : m.getParameterTypes()) {
            types.add(t.getName());
        }
        return m.getReturnType().getName() + " " + m.getName() + "(" + String.join(",", types) + ")";
    }

    private static List<Class<?>> classes() {
        List<Class<?>> all = new ArrayList<>(List.of(NineTimbers.class.getDeclaredClasses()));
        all.add(NineTimbers.class);
        return all;
    }

    private static void nested(Checks c) {
        c.due("twelve classes at most", classes().size() <= 12, true);
        for (Class<?> k : classes()) {
            c.due(k + " is static", k == NineTimbers.class || Modifier.isStatic(k.getModifiers()), true);
            c.due(k + " has no classes", k == NineTimbers.class || k.getDeclaredClasses().length == 0, true);
            int fields = 0;
            for (Field f : k.getDeclaredFields()) {
                boolean isStatic = Modifier.isStatic(f.getModifiers());
                fields += isStatic ? 0 : 1;
                c.due(f + " is final", !isStatic || Modifier.isFinal(f.getModifiers()), true);
            }
            c.due(k + " has some twenty fields at most", fields <= 20, true);
        }
    }

    private static void words(Checks c, String source) {
        String code = source.replaceAll("(?s)/\\*.*?\\*/", " ").replaceAll("//[^\n]*", " ").replaceAll("\"[^\"\n]*\"", "\"\"");
        List<String> banned = List.of("throw", "throws", "try", "catch", "finally", "synchronized", "assert", "native",
            "protected", "volatile", "transient", "Object", "System\\.(?!arraycopy)\\w+", "Exact", "toString", "hashCode",
            "equals", "package", "strictfp");
        for (String word : banned) {
            Matcher m = Pattern.compile("\\b" + word + "\\b").matcher(code);
            c.due("the word " + word, m.find(), false);
        }
        c.due("a lambda", code.contains("->"), false);
        c.due("a method reference", code.contains("::"), false);
        Matcher imports = Pattern.compile("import ([^;]*);").matcher(code);
        while (imports.find()) {
            c.due("import " + imports.group(1), imports.group(1).equals("java.util.Arrays"), true);
        }
    }

    private static void methodLengths(Checks c, String source) {
        String[] lines = source.split("\n");
        int start = -1;
        String indent = "";
        for (int i = 0; i < lines.length; i++) {
            Matcher m = Pattern.compile("^( {4}| {8})(?!static final class|private static final class)\\S.*\\) \\{$").matcher(lines[i]);
            if (start < 0 && m.find()) {
                start = i;
                indent = m.group(1);
            } else if (start >= 0 && lines[i].equals(indent + "}")) {
                c.due("lines of " + lines[start].strip(), i - start < 60, true);
                start = -1;
            }
        }
    }
}
