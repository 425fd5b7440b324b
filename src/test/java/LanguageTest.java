import java.io.IOException;
import java.lang.reflect.Field;
import java.lang.reflect.Method;
import java.lang.reflect.Modifier;
import java.nio.charset.StandardCharsets;
import java.nio.file.Files;
import java.nio.file.Path;
import java.util.Arrays;
import java.util.List;
import java.util.Set;
import java.util.TreeSet;
import java.util.regex.Matcher;
import java.util.regex.Pattern;

/** What of LANGUAGE.md can be seen from outside: the face, and words that may not stand in the source. */
public final class LanguageTest {
    private static final String FACE =
        "hat/1 fresh/3 of/2 told/2 pledge/2 turn/2 as/2 head/1 about/2 mind/3 moths/1 takes/2 keeps/2 tries/2 redeem/2 "
        + "blend/2 stack/2 weeks/1 now/1 on/3 gone/2 alike/2 best/1 row/2 rows/3 kind/2 lasting/2 worn/1 before/2 "
        + "feed/2 wipe/0 shop/0 sheet/3 write/3 copy/5 lays/1 book/2 read/2 image/0 undo/0 tear/0 count/1 status/1";
    private static final List<String> BANNED = List.of(
        "\\b(throw|throws|try|catch|synchronized|assert|finally|native|volatile|transient|strictfp|goto)\\b",
        "->", "::", "@", "\\bpackage\\b", "\\w+Exact\\b", "\\b(System\\.(?!arraycopy)\\w+|Thread|Object|Class)\\b",
        "\\b(hashCode|toString|getClass)\\b", "\\bprotected\\b");

    public static void main(String[] args) throws IOException {
        face();
        nestedClasses();
        source(Files.readString(Path.of("src/main/java/HeadHats.java"), StandardCharsets.ISO_8859_1));
        Due.end();
    }

    private static void face() {
        Set<String> names = new TreeSet<>();
        Set<String> open = new TreeSet<>();
        for (Method m : HeadHats.class.getDeclaredMethods()) {
            if (Modifier.isPublic(m.getModifiers())) {
                names.add(m.getName());
                open.add(m.getName() + "/" + m.getParameterCount());
                Class<?> answer = m.getName().equals("write") ? long.class : int.class;
                Due.dueTrue("rule 1: what " + m.getName() + " answers", m.getReturnType() == answer);
            }
        }
        Due.dueTrue("rule 1: the face is " + open, open.equals(new TreeSet<>(Arrays.asList(FACE.split(" ")))));
        for (Method m : HeadHats.class.getDeclaredMethods()) {
            boolean isPublic = Modifier.isPublic(m.getModifiers());
            Due.dueTrue("rule 1: " + m.getName(), isPublic || Modifier.isPrivate(m.getModifiers()) && !names.contains(m.getName()));
        }
        Due.dueTrue("rule 1: final", Modifier.isFinal(HeadHats.class.getModifiers()));
        Due.dueTrue("rule 1: one constructor", HeadHats.class.getDeclaredConstructors().length == 1);
        fields(HeadHats.class);
    }

    private static void nestedClasses() {
        Class<?>[] inside = HeadHats.class.getDeclaredClasses();
        Due.dueTrue("rule 11: classes", inside.length <= 12);
        for (Class<?> c : inside) {
            Due.dueTrue("rule 2: " + c, Modifier.isStatic(c.getModifiers()) && !Modifier.isPublic(c.getModifiers()));
            fields(c);
            for (Method m : c.getDeclaredMethods()) {
                Due.dueTrue("rule 11: " + m, m.getParameterCount() <= 7);
                boolean clashes = Modifier.isPrivate(m.getModifiers()) && FACE.matches("(.* )?" + m.getName() + "/.*");
                Due.dueTrue("rule 1: " + m, !clashes);
            }
        }
    }

    private static void fields(Class<?> c) {
        int own = 0;
        for (Field f : c.getDeclaredFields()) {
            Due.dueTrue("rule 1: " + f, Modifier.isPrivate(f.getModifiers()));
            if (Modifier.isStatic(f.getModifiers())) {
                Due.dueTrue("rule 5: " + f, Modifier.isFinal(f.getModifiers()));
            } else {
                own++;
            }
        }
        Due.dueTrue("rule 11: fields of " + c, own <= 20);
    }

    private static void source(String text) {
        Due.dueTrue("rule 3: signs", text.chars().allMatch(c -> c == '\n' || c >= 32 && c < 127));
        String code = text.replaceAll("(?s)/\\*.*?\\*/", "").replaceAll("//[^\n]*", "");
        for (String pattern : BANNED) {
            Matcher m = Pattern.compile(pattern).matcher(code);
            Due.dueTrue("a word that may not stand: " + pattern, !m.find());
        }
        Matcher imports = Pattern.compile("import ([^;]*);").matcher(code);
        while (imports.find()) {
            Due.dueTrue("rule 4: " + imports.group(), imports.group(1).equals("java.util.Arrays"));
        }
    }
}
