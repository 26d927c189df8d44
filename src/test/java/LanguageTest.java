import java.io.IOException;
import java.lang.reflect.Field;
import java.lang.reflect.Method;
import java.lang.reflect.Modifier;
import java.nio.file.Files;
import java.nio.file.Path;
import java.util.HashSet;
import java.util.List;
import java.util.Set;
import java.util.regex.Matcher;
import java.util.regex.Pattern;

/** Those rules of LANGUAGE.md, by their numbers, that can be looked up in the class's text and face. */
public final class LanguageTest {
    private static final Due due = new Due("language");

    public static void main(String[] args) throws IOException {
        String text = Files.readString(Path.of("src/main/java/ConflictSolve.java"));
        String code = withoutComments(text);
        noPrivateMethodBearsAPublicName();
        noWordIsForbidden(code);
        onlyTheLibraryThatIsListed(code);
        onlyConstantsAreStatic();
        objectsAreMadeByTheConstructorAlone(code);
        methodsAndFieldsAreFew();
        methodsAreShort(code);
        due.end();
    }

    private static void noPrivateMethodBearsAPublicName() {
        Set<String> names = new HashSet<>();
        for (Method method : ConflictSolve.class.getDeclaredMethods()) {
            due.is("rule 1: " + method.getName() + " is the only one so named", names.add(method.getName()), true);
        }
    }

    private static void noWordIsForbidden(String code) {
        List<String> words = List.of("throw", "throws", "try", "catch", "finally", "synchronized",
                "assert", "import", "package", "protected", "volatile", "native", "Object", "var");
        for (String word : words) {
            boolean found = Pattern.compile("\\b" + word + "\\b").matcher(code).find();
            due.is("rules 1 to 6: the word " + word, found, false);
        }
        for (String sign : List.of("->", "::", "@", "\"")) {
            due.is("rules 2 and 10: the sign " + sign, code.contains(sign), false);
        }
        due.is("rule 5: a static initialiser", code.matches("(?s).*\\bstatic\\s*\\{.*"), false);
    }

    private static void onlyTheLibraryThatIsListed(String code) {
        Set<String> listed = Set.of("Integer.bitCount", "Long.bitCount");
        Matcher use = Pattern.compile("\\b[A-Z][a-z]\\w*\\.\\w+").matcher(code);
        while (use.find()) {
            due.is("rule 4: " + use.group() + " is listed", listed.contains(use.group()), true);
        }
    }

    private static void onlyConstantsAreStatic() {
        for (Field field : ConflictSolve.class.getDeclaredFields()) {
            if (Modifier.isStatic(field.getModifiers())) {
                due.is("rule 5: " + field.getName() + " is final", Modifier.isFinal(field.getModifiers()), true);
                due.is("rule 5: " + field.getName() + " is a number", field.getType().isPrimitive(), true);
            }
        }
    }

    /** Rule 12: what calls make would add up in the one room that all objects share. */
    private static void objectsAreMadeByTheConstructorAlone(String code) {
        for (String line : code.split("\n")) {
            if (line.matches(".*\\bnew\\b.*")) {
                due.is("rule 12: made for a field: " + line.trim(), line.startsWith("    private final "), true);
            }
        }
    }

    private static void methodsAndFieldsAreFew() {
        for (Method method : ConflictSolve.class.getDeclaredMethods()) {
            due.is("rule 11: parameters of " + method.getName() + " are few", method.getParameterCount() <= 7, true);
        }
        int fields = 0;
        for (Field field : ConflictSolve.class.getDeclaredFields()) {
            fields += Modifier.isStatic(field.getModifiers()) ? 0 : 1;
        }
        due.is("rule 11: the class's " + fields + " fields are few", fields <= 20, true);
        due.is("rule 11: classes inside", ConflictSolve.class.getDeclaredClasses().length <= 11, true);
    }

    private static void methodsAreShort(String code) {
        int begun = -1;
        String[] lines = code.split("\n");
        for (int i = 0; i < lines.length; i++) {
            if (lines[i].matches("    (public|private) .*\\{")) {
                begun = i;
            } else if (lines[i].equals("    }") && begun >= 0) {
                due.is("rule 11: short: " + lines[begun].trim(), i - begun <= 60, true);
                begun = -1;
            }
        }
    }

    private static String withoutComments(String text) {
        return text.replaceAll("(?s)/\\*.*?\\*/", "").replaceAll("//[^\n]*", "");
    }
}
