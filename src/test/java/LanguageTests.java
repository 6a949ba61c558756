import java.io.IOException;
import java.lang.reflect.Field;
import java.lang.reflect.Method;
import java.lang.reflect.Modifier;
import java.nio.charset.StandardCharsets;
import java.nio.file.Files;
import java.nio.file.Path;
import java.util.ArrayList;
import java.util.List;
import java.util.regex.Matcher;
import java.util.regex.Pattern;

/** Those rules of LANGUAGE.md that can be seen from the class or from its text. */
public final class LanguageTests {
    private static final Checks CHECKS = new Checks("language");

    private static void members() {
        Class<?> c = MothCustoms.class;
        CHECKS.hold("public and final", c.getModifiers() == (Modifier.PUBLIC | Modifier.FINAL));
        List<String> publicNames = new ArrayList<>();
        for (Method m : c.getDeclaredMethods()) {
            if (Modifier.isPublic(m.getModifiers())) publicNames.add(m.getName());
        }
        for (Method m : c.getDeclaredMethods()) {
            if (Modifier.isPublic(m.getModifiers())) continue;
            CHECKS.hold(m + " is private", Modifier.isPrivate(m.getModifiers()));
            CHECKS.hold(m + " has a name of its own", !publicNames.contains(m.getName()));
            CHECKS.hold(m + " takes at most 7", m.getParameterCount() <= 7);
        }
        for (Field f : c.getDeclaredFields()) CHECKS.hold(f + " is private, or a constant", Modifier.isPrivate(f.getModifiers()) || Modifier.isPublic(f.getModifiers()));
        inside(c, publicNames);
    }

    private static void inside(Class<?> c, List<String> publicNames) {
        CHECKS.hold("at most 12 classes", c.getDeclaredClasses().length < 12);
        for (Class<?> d : c.getDeclaredClasses()) {
            CHECKS.hold(d + " is static", Modifier.isStatic(d.getModifiers()) && !Modifier.isPublic(d.getModifiers()));
            int fields = 0;
            for (Field f : d.getDeclaredFields()) {
                if (!Modifier.isStatic(f.getModifiers())) fields++;
                CHECKS.hold(f + " is final, if static", !Modifier.isStatic(f.getModifiers()) || Modifier.isFinal(f.getModifiers()));
            }
            CHECKS.hold(d + " has at most 20 fields", fields <= 20);
            for (Method m : d.getDeclaredMethods()) CHECKS.hold(m + " has a name of its own", !publicNames.contains(m.getName()));
        }
    }

    private static String found(String source, String pattern) {
        Matcher m = Pattern.compile(pattern).matcher(source);
        return m.find() ? m.group() : "";
    }

    private static void source(String text) {
        CHECKS.hold("signs of 7 bits alone", text.chars().allMatch(c -> c < 128));
        String code = text.replaceAll("//[^\n]*", "").replaceAll("(?s)/\\*.*?\\*/", "");
        for (String word : "throw throws try catch synchronized assert import package static\\s*\\{ -> :: protected volatile native".split(" ")) {
            String whole = word.matches("[a-z]+") ? "\\b" + word + "\\b" : word;
            CHECKS.hold("no " + word, found(code, whole).isEmpty());
        }
        CHECKS.hold("no text is joined by +", found(code, "\"\\s*\\+|\\+\\s*\"").isEmpty());
        CHECKS.hold("no text is asked by ==", found(code, "[!=]=\\s*\"|\"\\s*[!=]=").isEmpty());
        CHECKS.hold("of the library System.arraycopy, Math.min, Math.max, Integer.bitCount alone",
            code.replaceAll("System\\.arraycopy|Math\\.(min|max)\\(|Integer\\.bitCount", "")
                .matches("(?s)((?!System|Math|Integer|Long|Arrays|List|StringBuilder|String\\.).)*"));
        for (String line : code.split("\n")) {
            if (line.contains("new ")) CHECKS.hold("made in a field or a constructor: " + line, line.matches("\\s+(?:(?:private )?final \\S+ )?\\w+(?:\\[k\\])? = new .*"));
        }
        int begun = 0, number = 0;
        for (String line : text.split("\n")) {
            number++;
            if (line.matches(" {4}(?: {4})?[a-zA-Z].*\\) \\{")) begun = number;
            if (line.matches(" {4}(?: {4})?\\}")) CHECKS.hold("60 lines at most above line " + number, begun == 0 || number - begun <= 60);
            if (line.matches(" {4}(?: {4})?\\}")) begun = 0;
        }
    }

    public static void main(String[] args) throws IOException {
        members();
        source(new String(Files.readAllBytes(Path.of(args[0])), StandardCharsets.ISO_8859_1));
        CHECKS.end();
    }
}
