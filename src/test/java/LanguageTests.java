import java.io.IOException;
import java.lang.reflect.Constructor;
import java.lang.reflect.Field;
import java.lang.reflect.Method;
import java.lang.reflect.Modifier;
import java.nio.charset.StandardCharsets;
import java.nio.file.Files;
import java.nio.file.Path;
import java.util.ArrayList;
import java.util.Collections;
import java.util.List;
import java.util.regex.Matcher;
import java.util.regex.Pattern;

/** The face of the class, and those rules of LANGUAGE.md that can be seen from the class or from its text. */
public final class LanguageTests {
    private static final String FACE = "ahead(int,int)int alter(int,int,int)int back(int)int bale(int,int)int best(int)int "
        + "bolt(int,int)int bought()int camphor(int,boolean)int count(int)int drift(int,int,int)int duty(int)int eats(int)int "
        + "end(int)int fault()int feed(int)int fold(int,int)int forget(int)int go(int)int guard(int)int keep(int)int "
        + "lain(int)int lay(int,int,int)int luck(int,int,int)long mean(int,int)long moth(int,int)int patch(int,int)int "
        + "prick(int)int pricked(int)int raise(int)int read(int,int,int,int)int rule(int)int see(int,int)int send(int,int)int "
        + "set(int,int)int sheet(int,int,int)int swap(int,int)int tastes(int)int text()int torn()int under(int,int)int when(int)int";

    private static int passed = 0, failed = 0;

    private static void holds(String what, boolean is) {
        if (is) {
            passed++;
            return;
        }
        failed++;
        System.out.println("not so: " + what);
    }

    private static void face() throws IllegalAccessException {
        Class<?> c = MothCustoms.class;
        holds("public and final", c.getModifiers() == (Modifier.PUBLIC | Modifier.FINAL));
        List<String> methods = new ArrayList<>(), publicNames = new ArrayList<>();
        for (Method m : c.getDeclaredMethods()) {
            if (Modifier.isPublic(m.getModifiers())) {
                StringBuilder s = new StringBuilder(m.getName()).append('(');
                for (Class<?> p : m.getParameterTypes()) s.append(s.charAt(s.length() - 1) == '(' ? "" : ",").append(p);
                methods.add(s.append(')').append(m.getReturnType()).toString());
                publicNames.add(m.getName());
            }
        }
        Collections.sort(methods);
        holds("the face is " + String.join(" ", methods), String.join(" ", methods).equals(FACE));
        for (Method m : c.getDeclaredMethods()) {
            if (Modifier.isPublic(m.getModifiers())) continue;
            holds(m + " is private", Modifier.isPrivate(m.getModifiers()));
            holds(m + " has a name of its own", !publicNames.contains(m.getName()));
            holds(m + " takes at most 7", m.getParameterCount() <= 7);
        }
        String[] names = {"BAD", "STATE", "FULL", "NONE"};
        for (int i = 0; i < 4; i++) {
            try {
                Field f = c.getField(names[i]);
                holds(names[i], f.getModifiers() == (Modifier.PUBLIC | Modifier.STATIC | Modifier.FINAL) && f.getInt(null) == -1 - i);
            } catch (NoSuchFieldException e) {
                holds(names[i] + " is there", false);
            }
        }
        holds("four public fields", c.getFields().length == 4);
        for (Field f : c.getDeclaredFields()) holds(f + " is private, or a constant", Modifier.isPrivate(f.getModifiers()) || Modifier.isPublic(f.getModifiers()));
        Constructor<?>[] made = c.getDeclaredConstructors();
        holds("one public constructor", made.length == 1 && Modifier.isPublic(made[0].getModifiers()) && made[0].getParameterCount() == 0);
        inside(c, publicNames);
    }

    private static void inside(Class<?> c, List<String> publicNames) {
        holds("at most 12 classes", c.getDeclaredClasses().length < 12);
        for (Class<?> d : c.getDeclaredClasses()) {
            holds(d + " is static", Modifier.isStatic(d.getModifiers()) && !Modifier.isPublic(d.getModifiers()));
            int fields = 0;
            for (Field f : d.getDeclaredFields()) {
                if (!Modifier.isStatic(f.getModifiers())) fields++;
                holds(f + " is final, if static", !Modifier.isStatic(f.getModifiers()) || Modifier.isFinal(f.getModifiers()));
            }
            holds(d + " has at most 20 fields", fields <= 20);
            for (Method m : d.getDeclaredMethods()) holds(m + " has a name of its own", !publicNames.contains(m.getName()));
        }
    }

    private static String found(String source, String pattern) {
        Matcher m = Pattern.compile(pattern).matcher(source);
        return m.find() ? m.group() : "";
    }

    private static void source(String text) {
        holds("signs of 7 bits alone", text.chars().allMatch(c -> c < 128));
        String code = text.replaceAll("//[^\n]*", "").replaceAll("(?s)/\\*.*?\\*/", "");
        for (String word : "throw throws try catch synchronized assert import package static\\s*\\{ -> :: protected volatile native".split(" ")) {
            String whole = word.matches("[a-z]+") ? "\\b" + word + "\\b" : word;
            holds("no " + word, found(code, whole).isEmpty());
        }
        holds("no text is joined by +", found(code, "\"\\s*\\+|\\+\\s*\"").isEmpty());
        holds("no text is asked by ==", found(code, "[!=]=\\s*\"|\"\\s*[!=]=").isEmpty());
        holds("of the library System.arraycopy, Math.min, Math.max, Integer.bitCount alone",
            code.replaceAll("System\\.arraycopy|Math\\.(min|max)\\(|Integer\\.bitCount", "")
                .matches("(?s)((?!System|Math|Integer|Long|Arrays|List|StringBuilder|String\\.).)*"));
        for (String line : code.split("\n")) {
            if (line.contains("new ")) holds("made in a field or a constructor: " + line, line.matches("\\s+(?:(?:private )?final \\S+ )?\\w+(?:\\[k\\])? = new .*"));
        }
        int begun = 0, number = 0;
        for (String line : text.split("\n")) {
            number++;
            if (line.matches(" {4}(?: {4})?[a-zA-Z].*\\) \\{")) begun = number;
            if (line.matches(" {4}(?: {4})?\\}")) holds("60 lines at most above line " + number, begun == 0 || number - begun <= 60);
            if (line.matches(" {4}(?: {4})?\\}")) begun = 0;
        }
    }

    public static void main(String[] args) throws IOException, IllegalAccessException {
        face();
        source(new String(Files.readAllBytes(Path.of(args[0])), StandardCharsets.ISO_8859_1));
        System.out.println("language: " + passed + " passed, " + failed + " failed");
        if (failed > 0) System.exit(1);
    }
}
