import java.lang.reflect.Executable;
import java.lang.reflect.Field;
import java.lang.reflect.Method;
import java.lang.reflect.Modifier;
import java.nio.charset.StandardCharsets;
import java.nio.file.Files;
import java.nio.file.Path;
import java.util.ArrayList;
import java.util.List;
import java.util.Set;
import java.util.regex.Matcher;
import java.util.regex.Pattern;

/** The rules of ../shared/LANGUAGE.md, as far as they show in the text of the class or by reflection. */
public final class LanguageTest extends Due {
    private static final Path SOURCE = Path.of("src", "main", "java", "ParrotsLast.java");
    private static final Set<String> LIBRARY = Set.of("Math.max", "Math.min", "Math.floorMod", "Integer.bitCount",
            "System.arraycopy", "LETTERS.indexOf");
    private static final Pattern METHOD = Pattern.compile("(?m)^( +)(?:(?:public|private|static|final) )*[\\w\\[\\]]+"
            + " \\w+\\([^;]*\\{\\n(?:.*\\n)*?\\1\\}$");
    private static final Pattern LIBRARY_CALL = Pattern.compile("\\b([A-Z]\\w*\\.\\w+)\\(");
    private static final int LONGEST_METHOD = 60;
    private static final int MOST_PARAMETERS = 7;
    private static final int MOST_CLASSES = 12;
    private static final int MOST_FIELDS = 20;

    private LanguageTest() {
        super("LanguageTest");
    }

    public static void main(String[] args) throws Exception {
        LanguageTest t = new LanguageTest();
        String code = withoutComments(new String(Files.readAllBytes(SOURCE), StandardCharsets.UTF_8));
        t.words(code);
        t.library(code);
        t.methods(code);
        t.classes();
        t.finish();
    }

    /** Texts and comments tell nothing of the language. */
    private static String withoutComments(String source) {
        return source.replaceAll("(?s)/\\*.*?\\*/", "").replaceAll("//.*", "").replaceAll("\"[^\"\n]*\"", "\"\"");
    }

    private void words(String code) {
        anew("rules 1 to 6");
        for (String word : new String[] {"package", "protected", "try", "catch", "finally", "synchronized", "assert",
            "hashCode", "equals", "toString", "instanceof", "float", "double", "volatile", "native", "var", "yield"}) {
            due("there is a " + word, Pattern.compile("\\b" + word + "\\b").matcher(code).find(), false);
        }
        for (String sign : new String[] {"->", "::", "[][][]", "@", "\" +", "+ \""}) {
            due("there is a " + sign, code.contains(sign), false);
        }
        due("all signs are 1 to 127", code.chars().allMatch(c -> c > 0 && c < 128), true);
        due("throws something else", Pattern.compile("throw (?!new NoSuchElementException\\(\"\"\\);)").matcher(code).find(),
                false);
        due("a loop without a bound", Pattern.compile("while \\(true\\)|for \\([^;]*;\\s*;").matcher(code).find(), false);
    }

    private void library(String code) {
        anew("rule 4");
        List<String> imports = new ArrayList<>();
        Matcher line = Pattern.compile("(?m)^import (.*);").matcher(code);
        while (line.find()) {
            imports.add(line.group(1));
        }
        due("imports " + imports, imports.equals(List.of("java.util.NoSuchElementException")), true);
        Matcher call = LIBRARY_CALL.matcher(code);
        while (call.find()) {
            due(call.group(1) + " is of the library in use", LIBRARY.contains(call.group(1)), true);
        }
    }

    private void methods(String code) {
        anew("rule 11");
        Matcher method = METHOD.matcher(code);
        int many = 0;
        while (method.find()) {
            many++;
            String head = method.group().strip().lines().findFirst().orElse("");
            due(head + " is short", method.group().lines().count() <= LONGEST_METHOD, true);
        }
        due("methods were found", many > FaceTest.FACE.split(" ").length, true);
    }

    private void classes() {
        anew("rules 1, 2, 5, 11");
        List<Class<?>> all = new ArrayList<>(List.of(ParrotsLast.class.getDeclaredClasses()));
        all.add(ParrotsLast.class);
        due("some twelve classes, not " + all.size(), all.size() <= MOST_CLASSES, true);
        Set<String> face = Set.of(FaceTest.FACE.split(" "));
        for (Class<?> one : all) {
            due(one + " is final", Modifier.isFinal(one.getModifiers()), true);
            fields(one);
            for (Method m : one.getDeclaredMethods()) {
                due(m + " may bear its name", Modifier.isPublic(m.getModifiers()) || !face.contains(m.getName()), true);
                parameters(m);
            }
            for (Executable constructor : one.getDeclaredConstructors()) {
                parameters(constructor);
            }
        }
    }

    private void parameters(Executable e) {
        due(e + " takes few parameters", e.getParameterCount() <= MOST_PARAMETERS, true);
    }

    private void fields(Class<?> one) {
        int own = 0;
        for (Field f : one.getDeclaredFields()) {
            if (Modifier.isStatic(f.getModifiers())) {
                due(f + " is a constant", Modifier.isFinal(f.getModifiers())
                        && (f.getType().isPrimitive() || f.getType() == String.class), true);
            } else {
                own++;
            }
        }
        due(one + " has some twenty fields, not " + own, own <= MOST_FIELDS, true);
    }
}
