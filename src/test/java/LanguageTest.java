import java.io.IOException;
import java.lang.reflect.Field;
import java.lang.reflect.Method;
import java.lang.reflect.Modifier;
import java.nio.file.Files;
import java.nio.file.Path;
import java.util.ArrayList;
import java.util.Arrays;
import java.util.List;
import java.util.Set;
import java.util.TreeSet;
import java.util.regex.Matcher;
import java.util.regex.Pattern;

/** Those of LANGUAGE.md's rules that can be seen from the program's text and its classes. */
public final class LanguageTest {
    private static final Set<String> IMPORTS = Set.of("java.util.Arrays", "java.util.NoSuchElementException");
    // rule 4, as far as the program uses it
    private static final Set<String> LIBRARY = Set.of("Integer.bitCount", "Long.bitCount", "Math.max", "Math.min", "Arrays.fill",
        "System.arraycopy");
    private static final Set<String> OF_OBJECTS = Set.of("length", "charAt", "clone");
    private static final String[] RULED_OUT = {"->", "::", "\\btry\\b", "\\bcatch\\b", "\\bfinally\\b", "\\bassert\\b",
        "\\bsynchronized\\b", "Exact\\(", "\\bstatic\\s*\\{", "\\bdouble\\b", "\\bfloat\\b", "java\\.lang", "\\bvar\\b"};

    private LanguageTest() {
    }

    public static void main(String[] args) throws IOException {
        List<String> lines = Files.readAllLines(Path.of("src/main/java/LitNextDoor.java"));
        List<Class<?>> classes = new ArrayList<>(Arrays.asList(LitNextDoor.class.getDeclaredClasses()));
        classes.add(LitNextDoor.class);
        text(lines, ownNames(classes));
        lengths(lines);
        Check.due("classes are at most 12: " + classes.size(), classes.size() <= 12, true);
        for (Class<?> c : classes) {
            members(c);
        }
        Check.end("LanguageTest");
    }

    private static void text(List<String> lines, Set<String> own) {
        for (String line : lines) {
            String code = line.replaceAll("//.*|/\\*\\*.*", "").replaceAll("\"[^\"]*\"", "\"\"");
            library(line, code, own);
            for (String out : RULED_OUT) {
                Check.due(line + " has " + out, Pattern.compile(out).matcher(code).find(), false);
            }
            Matcher imported = Pattern.compile("^import (.*);").matcher(line);
            if (imported.find()) {
                Check.due(line, IMPORTS.contains(imported.group(1)), true);
            }
            Matcher thrown = Pattern.compile("throw (.*)").matcher(code);
            if (thrown.find()) {
                String allowed = "new (IllegalState|IllegalArgument|IndexOutOfBounds|NoSuchElement)Exception\\(\"\"\\);";
                Check.due(line, thrown.group(1).matches(allowed), true);
            }
        }
    }

    /** Calls by a class's name or of an object are those of rule 4, or of the program's own classes. */
    private static void library(String line, String code, Set<String> own) {
        Matcher call = Pattern.compile("\\b(\\w+)\\.(\\w+)\\(").matcher(code);
        while (call.find()) {
            boolean byClass = Character.isUpperCase(call.group(1).charAt(0)) && !own.contains(call.group(1));
            boolean allowed = byClass ? LIBRARY.contains(call.group(1) + "." + call.group(2))
                : OF_OBJECTS.contains(call.group(2)) || own.contains(call.group(2));
            Check.due(line + " calls " + call.group(), allowed, true);
        }
    }

    /** The names of the program's classes, and of all that can be called in them. */
    private static Set<String> ownNames(List<Class<?>> classes) {
        Set<String> names = new TreeSet<>();
        for (Class<?> c : classes) {
            names.add(c.getSimpleName());
            for (Method m : c.getDeclaredMethods()) {
                names.add(m.getName());
            }
        }
        return names;
    }

    /** Methods begin and end at one of two depths, as the program is set. */
    private static void lengths(List<String> lines) {
        int begin = -1;
        String indent = "";
        for (int i = 0; i < lines.size(); i++) {
            Matcher head = Pattern.compile("^( {4}| {8})[a-zA-Z].*[({,]$").matcher(lines.get(i));
            if (begin < 0 && head.find() && lines.get(i).contains("(") && !lines.get(i).contains("=")) {
                begin = i;
                indent = head.group(1);
            } else if (begin >= 0 && lines.get(i).equals(indent + "}")) {
                Check.due("the method at line " + (begin + 1) + " is short", i - begin < 60, true);
                begin = -1;
            }
        }
    }

    private static void members(Class<?> c) {
        int fields = 0;
        for (Field f : c.getDeclaredFields()) {
            if (Modifier.isStatic(f.getModifiers())) {
                Check.due(f + " is a constant", Modifier.isFinal(f.getModifiers()) && f.getType() == int.class, true);
            } else {
                fields++;
            }
        }
        Check.due(c + " has at most 20 fields: " + fields, fields <= 20, true);
        for (Method m : c.getDeclaredMethods()) {
            Check.due(m + " takes at most seven", m.getParameterCount() <= 7, true);
        }
    }
}
