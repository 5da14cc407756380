import java.io.IOException;
import java.lang.reflect.Constructor;
import java.lang.reflect.Executable;
import java.lang.reflect.Field;
import java.lang.reflect.Modifier;
import java.nio.file.Files;
import java.nio.file.Path;
import java.util.ArrayList;
import java.util.Arrays;
import java.util.List;
import java.util.Set;
import java.util.regex.Matcher;
import java.util.regex.Pattern;

/** The rules of ../shared/LANGUAGE.md that can be seen from the text or the shape of the class. */
public final class LanguageTest {
    private static final Check CHECK = new Check("language");
    private static final Path SOURCE = Path.of("src", "main", "java", "StreamLink.java");
    private static final String[] NOT_USED = {
        "\\bpackage\\b", "\\bimport\\b", "->", "::", "\\btry\\b", "\\bcatch\\b", "\\bthrows?\\b",
        "\\bfinally\\b", "\\bsynchronized\\b", "\\bassert\\b", "\\bprotected\\b", "\\bnull\\b",
        "\\bstatic\\s*\\{", "\\bSystem\\b", "\\bObject\\b", "\\bThread\\b", "\\b(float|double)\\b"};
    private static final Set<String> LIBRARY = Set.of("Math.max", "Math.min", "Math.floorMod");
    private static final Pattern LIBRARY_CALL = Pattern.compile("\\b[A-Z]\\w*[a-z]\\w*\\.[a-z]\\w*");
    private static final Pattern METHOD_START =
        Pattern.compile("^( {4}| {8})(?! )(?!.*\\bclass\\b)[^=;]*\\)\\s*\\{$");

    public static void main(String[] args) throws IOException {
        String code = Files.readString(SOURCE).replaceAll("(?s)/\\*.*?\\*/", "")
            .replaceAll("//[^\n]*", "");
        wordsThatAreNotUsed(code);
        libraryCallsAreListed(code);
        methodsAreShort(code.split("\n"));
        classesKeepTheirBounds();
        CHECK.finish();
    }

    private static void wordsThatAreNotUsed(String code) {
        for (String word : NOT_USED) {
            CHECK.due("the text has " + word, Pattern.compile(word).matcher(code).find(), false);
        }
    }

    private static void libraryCallsAreListed(String code) {
        Matcher call = LIBRARY_CALL.matcher(code);
        while (call.find()) {
            CHECK.due(call.group() + " is listed", LIBRARY.contains(call.group()), true);
        }
    }

    private static void methodsAreShort(String[] lines) {
        int methods = 0;
        for (int i = 0; i < lines.length; i++) {
            Matcher start = METHOD_START.matcher(lines[i]);
            if (start.find()) {
                methods++;
                String end = start.group(1) + "}";
                int length = 1;
                while (i + length < lines.length && !lines[i + length].equals(end)) {
                    length++;
                }
                CHECK.due("more than 60 lines from:" + lines[i], length > 60, false);
            }
        }
        CHECK.due("methods were found", methods > 50, true);
    }

    private static void classesKeepTheirBounds() {
        List<Class<?>> classes = new ArrayList<>(List.of(StreamLink.class.getDeclaredClasses()));
        classes.add(StreamLink.class);
        CHECK.due("more than twelve classes", classes.size() > 12, false);
        for (Class<?> type : classes) {
            int fields = 0;
            for (Field field : type.getDeclaredFields()) {
                boolean isStatic = Modifier.isStatic(field.getModifiers());
                fields += isStatic ? 0 : 1;
                CHECK.due(field + " is static and may change",
                    isStatic && !Modifier.isFinal(field.getModifiers()), false);
            }
            CHECK.due("more than twenty fields in " + type, fields > 20, false);
            List<Executable> callables = new ArrayList<>(List.of(type.getDeclaredMethods()));
            callables.addAll(Arrays.<Constructor<?>>asList(type.getDeclaredConstructors()));
            for (Executable callable : callables) {
                CHECK.due("more than seven parameters: " + callable,
                    callable.getParameterCount() > 7, false);
            }
        }
    }
}
