import java.io.IOException;
import java.lang.reflect.Constructor;
import java.lang.reflect.Field;
import java.lang.reflect.Method;
import java.lang.reflect.Modifier;
import java.nio.charset.StandardCharsets;
import java.nio.file.Files;
import java.nio.file.Path;
import java.util.ArrayList;
import java.util.Arrays;
import java.util.List;
import java.util.Set;
import java.util.TreeSet;
import java.util.regex.Matcher;
import java.util.regex.Pattern;

/** The face of the document and the rules of LANGUAGE.md, as far as a test can see them. */
public final class LanguageTest {
    private static final Path SOURCE = Path.of("src/main/java/OpeningsCabinet.java");
    private static final Path DOCUMENT = Path.of("../shared/DOC.md");
    private static final int MOST_LINES = 60;

    public static void main(String[] args) throws IOException {
        String source = Files.readString(SOURCE, StandardCharsets.US_ASCII);
        face();
        members();
        words(source);
        methodLengths(source);
        Check.end("LanguageTest");
    }

    /** The signatures in the document are those of the class, and there are no others. */
    private static void face() throws IOException {
        String document = Files.readString(DOCUMENT);
        String block = document.substring(document.indexOf("public final class"), document.indexOf("## Terms"));
        Set<String> due = new TreeSet<>();
        Matcher line = Pattern.compile("public (\\w+) (\\w+)\\((.*?)\\)(?: throws (.*?))?;").matcher(block);
        while (line.find()) {
            StringBuilder types = new StringBuilder();
            for (String parameter : line.group(3).split(", ")) {
                types.append(parameter.isEmpty() ? "" : parameter.split(" ")[0] + " ");
            }
            due.add(line.group(1) + " " + line.group(2) + "( " + types + ") " + (line.group(4) == null ? "" : line.group(4)));
        }
        Set<String> got = new TreeSet<>();
        for (Method m : OpeningsCabinet.class.getDeclaredMethods()) {
            if (Modifier.isPublic(m.getModifiers())) {
                got.add(m.getReturnType() + " " + m.getName() + "( " + names(m.getParameterTypes(), " ")
                        + ") " + names(m.getExceptionTypes(), ", ").replaceAll(", $", ""));
            }
        }
        Check.same("the public methods", got, due);
        Check.same("their number", due.size() > 60, true);
        Check.same("the constructors", OpeningsCabinet.class.getConstructors().length, 1);
        Check.same("the class", OpeningsCabinet.class.getModifiers(), Modifier.PUBLIC | Modifier.FINAL);
    }

    private static String names(Class<?>[] types, String behind) {
        StringBuilder all = new StringBuilder();
        for (Class<?> type : types) {
            all.append(type.getSimpleName()).append(behind);
        }
        return all.toString();
    }

    private static void members() {
        Set<String> face = new TreeSet<>();
        for (Method m : OpeningsCabinet.class.getDeclaredMethods()) {
            if (Modifier.isPublic(m.getModifiers())) {
                face.add(m.getName());
            }
        }
        List<Class<?>> all = new ArrayList<>(List.of(OpeningsCabinet.class.getDeclaredClasses()));
        Check.same("classes", all.size() + 1 <= 12, true);
        all.add(OpeningsCabinet.class);
        for (Class<?> type : all) {
            boolean isOuter = type == OpeningsCabinet.class;
            String name = type.getSimpleName();
            Check.same(name + " has no classes inside", isOuter || type.getDeclaredClasses().length == 0, true);
            Check.same(name + " is static and private", isOuter || Modifier.isStatic(type.getModifiers())
                    && Modifier.isPrivate(type.getModifiers()), true);
            int fields = 0;
            for (Field f : type.getDeclaredFields()) {
                boolean isStatic = Modifier.isStatic(f.getModifiers());
                fields += isStatic ? 0 : 1;
                Check.same(name + "." + f.getName() + " is not static or final",
                        !isStatic || Modifier.isFinal(f.getModifiers()), true);
                Check.same(name + "." + f.getName() + " is private or a constant",
                        Modifier.isPrivate(f.getModifiers()) || isOuter && isStatic, true);
            }
            Check.same(name + " has few fields: " + fields, fields <= 20, true);
            for (Method m : type.getDeclaredMethods()) {
                boolean isPublic = Modifier.isPublic(m.getModifiers());
                Check.same(name + "." + m.getName() + " is no second " + m.getName(),
                        isPublic && isOuter || !face.contains(m.getName()), true);
                Check.same(name + "." + m.getName() + " is private", !isOuter || isPublic
                        || Modifier.isPrivate(m.getModifiers()), true);
                Check.same(name + "." + m.getName() + " has few parameters", m.getParameterCount() <= 7, true);
            }
            for (Constructor<?> c : type.getDeclaredConstructors()) {
                Check.same(name + " has few parameters", c.getParameterCount() <= 7, true);
            }
        }
    }

    private static void words(String source) {
        String code = source.replaceAll("(?s)/\\*.*?\\*/", "").replaceAll("//.*", "")
                .replaceAll("\"(\\\\.|[^\"\\\\])*\"", "\"\"");
        String[] forbidden = {
            "->", "::", "\\bcatch\\b", "\\btry\\b", "\\bfinally\\b", "\\bsynchronized\\b", "\\bassert\\b", "\\binstanceof\\b",
            "\\bstatic \\{", "Exact\\(", "\\bSystem\\.(?!arraycopy)", "\\bHashMap\\b", "\\bTreeMap\\b", "\\bString\\.",
            "\\bhashCode\\b", "\\btoString\\b", "\\bequals\\b", "\\bDouble\\b", "\\bFloat\\b", "\\bstream\\b", "\"\" \\+",
            "\\+ \"\"", "\\btransient\\b", "\\bvolatile\\b", "\\bnative\\b", "\\bvar\\b", "\\byield\\b", "\\brecord\\b",
        };
        for (String word : forbidden) {
            Check.same("found " + word, Pattern.compile(word).matcher(code).find(), false);
        }
        Set<String> imports = new TreeSet<>();
        Matcher line = Pattern.compile("(?m)^import (.*);").matcher(code);
        while (line.find()) {
            imports.add(line.group(1));
        }
        imports.removeAll(Arrays.asList("java.util.ArrayList", "java.util.Arrays", "java.util.NoSuchElementException"));
        Check.same("other imports", imports, new TreeSet<String>());
        Matcher thrown = Pattern.compile("throw (?!new (IllegalArgument|IllegalState|IndexOutOfBounds|NoSuchElement)"
                + "Exception\\(\"\"\\);)").matcher(code);
        Check.same("another throw", thrown.find(), false);
    }

    /** A method begins with a brace at the end of a line that is 4 or 8 blanks in, and ends with one as far in. */
    private static void methodLengths(String source) {
        String[] lines = source.split("\n");
        for (int i = 0; i < lines.length; i++) {
            Matcher head = Pattern.compile("( {4}| {8}| {12})\\S.*\\) (?:throws .*)?\\{").matcher(lines[i]);
            if (!head.matches() || lines[i].contains(" class ")) {
                continue;
            }
            int end = i + 1;
            while (end < lines.length && !lines[end].equals(head.group(1) + "}")) {
                end++;
            }
            Check.same("line " + (i + 1) + " begins a short method", end - i < MOST_LINES, true);
        }
        for (String line : lines) {
            Check.same("a line is at most 120 signs long", line.length() <= 120, true);
        }
    }
}
