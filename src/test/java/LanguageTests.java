import java.io.IOException;
import java.lang.reflect.Constructor;
import java.lang.reflect.Field;
import java.lang.reflect.Method;
import java.lang.reflect.Modifier;
import java.nio.file.Files;
import java.nio.file.Path;
import java.util.Set;
import java.util.TreeSet;
import java.util.regex.Matcher;
import java.util.regex.Pattern;

/** The face that the document gives, and what of ../shared/LANGUAGE.md a reader of the text can see. */
public final class LanguageTests {
    private static final String[] FACE = {"feed 6", "page 1", "sense 0", "rule 0", "removeSense 1", "removeRule 1",
        "parameter 2", "budget 2", "insert 2", "replace 2", "cut 2", "edited 1", "cause 0", "word 3", "told 3",
        "base 4", "ofSense 2", "ofPage 2", "link 2", "without 2", "again 1", "back 0", "image 0", "undo 0", "count 1"};
    private static final String[] CONSTANTS = {"NONE", "BAD", "STATE", "FULL"};
    private static final int LONGEST_METHOD = 60, MOST_FIELDS = 20, MOST_CLASSES = 12, MOST_PARAMETERS = 7;
    private static int wrong = 0;

    public static void main(String[] args) throws IOException {
        face();
        for (Class<?> inside : GlossaryLinker.class.getDeclaredClasses()) {
            classInside(inside);
        }
        text(Files.readString(Path.of("src/main/java/GlossaryLinker.java")));
        System.out.println(wrong == 0 ? "the language is kept" : wrong + " rules of the language are broken");
        System.exit(wrong == 0 ? 0 : 1);
    }

    private static void must(boolean kept, String rule) {
        if (!kept) {
            wrong++;
            System.out.println("broken: " + rule);
        }
    }

    private static void face() {
        Class<?> face = GlossaryLinker.class;
        must(Modifier.isFinal(face.getModifiers()) && Modifier.isPublic(face.getModifiers()), "public and final");
        Set<String> due = new TreeSet<>(Set.of(FACE));
        Set<String> found = new TreeSet<>();
        for (Method method : face.getDeclaredMethods()) {
            if (Modifier.isPublic(method.getModifiers())) {
                found.add(method.getName() + " " + method.getParameterCount());
                must(method.getReturnType() == int.class, method + " returns an int");
            } else {
                must(Modifier.isPrivate(method.getModifiers()), method + " is private");
                privateName(method);
            }
        }
        must(found.equals(due), "the methods of the document and no other: " + found);
        for (Constructor<?> constructor : face.getDeclaredConstructors()) {
            must(Modifier.isPublic(constructor.getModifiers()) && constructor.getParameterCount() == 0,
                    "the constructor of the document and no other");
        }
        Set<String> constants = new TreeSet<>();
        for (Field field : face.getDeclaredFields()) {
            if (Modifier.isPublic(field.getModifiers())) {
                constants.add(field.getName());
                must(Modifier.isStatic(field.getModifiers()) && Modifier.isFinal(field.getModifiers()), field + " final");
            } else {
                must(Modifier.isPrivate(field.getModifiers()), field + " is private");
            }
        }
        must(constants.equals(new TreeSet<>(Set.of(CONSTANTS))), "the constants of the document and no other");
        fields(face);
    }

    private static void privateName(Method method) {
        for (String name : FACE) {
            must(!name.startsWith(method.getName() + " "), method + " bears the name of a public one");
        }
        must(method.getParameterCount() <= MOST_PARAMETERS, method + " has too many parameters");
    }

    private static void classInside(Class<?> inside) {
        must(Modifier.isStatic(inside.getModifiers()), inside + " is static");
        must(!Modifier.isPublic(inside.getModifiers()), inside + " is not public");
        for (Method method : inside.getDeclaredMethods()) {
            privateName(method);
            must(!Set.of("equals", "hashCode", "toString").contains(method.getName()), method + " is not allowed");
        }
        fields(inside);
    }

    private static void fields(Class<?> owner) {
        int fields = 0;
        for (Field field : owner.getDeclaredFields()) {
            boolean constant = Modifier.isStatic(field.getModifiers());
            fields += constant ? 0 : 1;
            must(!constant || Modifier.isFinal(field.getModifiers()), field + " is final");
        }
        must(fields <= MOST_FIELDS, owner + " has too many fields");
    }

    private static void text(String source) {
        String code = Pattern.compile("/\\*.*?\\*/|//[^\n]*", Pattern.DOTALL).matcher(source).replaceAll("");
        for (String word : new String[] {"throw", "throws", "try", "catch", "synchronized", "assert", "package",
            "import", "record", "protected", "default ->", "->", "::", "equals", "hashCode", "while", "Object"}) {
            String pattern = Character.isLetter(word.charAt(0)) ? "\\b" + word + "\\b" : Pattern.quote(word);
            must(!Pattern.compile(pattern).matcher(code).find(), "no " + word);
        }
        Set<String> library = new TreeSet<>();
        Matcher calls = Pattern.compile("\\b(Math|Arrays|System|Integer|Long|String|StringBuilder|List|ArrayList)\\b[.\\w]*")
                .matcher(code);
        while (calls.find()) {
            library.add(calls.group());
        }
        library.removeAll(Set.of("Math.max", "Math.min", "System.arraycopy"));
        must(library.isEmpty(), "no other library than known here: " + library);
        int classes = 0;
        Matcher found = Pattern.compile("\\bclass \\w+").matcher(code);
        while (found.find()) {
            classes++;
        }
        must(classes <= MOST_CLASSES, "at most some twelve classes, not " + classes);
        methodLengths(source.split("\n"));
    }

    private static void methodLengths(String[] lines) {
        for (int at = 0; at < lines.length; at++) {
            String line = lines[at];
            String indent = line.substring(0, line.length() - line.stripLeading().length());
            if (!line.endsWith(") {") || indent.length() > 8 || line.contains(" class ")) {
                continue;
            }
            int end = at;
            while (!lines[end].equals(indent + "}")) {
                end++;
            }
            must(end - at < LONGEST_METHOD, "a short method: " + line.strip());
        }
    }
}
