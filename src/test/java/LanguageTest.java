import java.lang.reflect.Constructor;
import java.lang.reflect.Field;
import java.lang.reflect.Method;
import java.lang.reflect.Modifier;
import java.nio.charset.StandardCharsets;
import java.nio.file.Files;
import java.nio.file.Path;
import java.util.List;
import java.util.Set;
import java.util.TreeSet;
import java.util.regex.Matcher;
import java.util.regex.Pattern;

/** Those rules of ../shared/LANGUAGE.md that can be seen from the source's words and from the classes. */
public final class LanguageTest {
    private static final Set<String> FACE = new TreeSet<>(List.of("feed", "back", "read", "place", "food", "dish", "amount",
            "guest", "deed", "cook", "eat", "days", "undo", "pot", "pinch", "freest", "supper", "feud", "menu", "often",
            "hunger", "stockIn", "boundIn", "year", "tell", "forget", "blame", "sure", "taste", "hold", "restore", "count"));

    public static void main(String[] args) throws Exception {
        String source = Files.readString(Path.of("src/main/java/CookedLaw.java"), StandardCharsets.ISO_8859_1);
        Check.due("only ASCII", source.chars().allMatch(c -> c < 128), true);
        String code = source.replaceAll("(?s)/\\*.*?\\*/", " ").replaceAll("//[^\n]*", " ");
        for (String word : List.of("throw", "throws", "try", "catch", "synchronized", "assert", "import", "package", "System",
                "Object", "float", "double", "toString", "equals", "hashCode", "instanceof", "var", "yield", "Exact")) {
            Check.due("the word " + word, Pattern.compile("\\b" + word + "\\b").matcher(code).find(), false);
        }
        Check.due("lambdas", code.contains("->") || code.contains("::"), false);
        Check.due("texts joined by +", Pattern.compile("\"\\s*\\+|\\+\\s*\"").matcher(code).find(), false);
        Check.due("divisions by what may be 0", looseDivisions(code), 0);
        methodsAreShort(code);
        face();
        for (Class<?> inside : CookedLaw.class.getDeclaredClasses()) {
            inside(inside);
        }
        Check.due("at most 12 classes", CookedLaw.class.getDeclaredClasses().length + 1 <= 12, true);
        Check.end("LanguageTest");
    }

    /** Each '/' and '%' stands in Law.reckon or Land.lot, behind its test. */
    private static int looseDivisions(String code) {
        String plain = code.replaceAll("'.'", " ");
        int loose = 0;
        for (String line : plain.split("\n")) {
            boolean divides = line.contains("/") || line.contains("%");
            if (divides && !line.contains("right == 0 ?") && !line.contains("n > 0 ?")) {
                loose++;
            }
        }
        return loose;
    }

    private static void methodsAreShort(String code) {
        List<String> lines = code.lines().toList();
        Pattern header = Pattern.compile("( {4}| {8})(public |private |static |int |long |boolean |void ).*\\) \\{");
        for (int from = 0; from < lines.size(); from++) {
            Matcher m = header.matcher(lines.get(from));
            if (m.matches()) {
                int length = lines.subList(from, lines.size()).indexOf(m.group(1) + "}");
                Check.due("a short method at line " + (from + 1), length > 0 && length < 60, true);
            }
        }
    }

    private static void face() throws Exception {
        Check.due("public and final", CookedLaw.class.getModifiers(), Modifier.PUBLIC | Modifier.FINAL);
        Set<String> names = new TreeSet<>();
        for (Method m : CookedLaw.class.getDeclaredMethods()) {
            if (Modifier.isPublic(m.getModifiers())) {
                names.add(m.getName());
                Check.due("static " + m.getName(), Modifier.isStatic(m.getModifiers()), false);
            } else {
                Check.due("private " + m.getName(), Modifier.isPrivate(m.getModifiers()), true);
                Check.due("a public name: " + m.getName(), FACE.contains(m.getName()), false);
            }
        }
        Check.due("face", names.equals(FACE), true);
        for (Constructor<?> c : CookedLaw.class.getDeclaredConstructors()) {
            Check.due("public constructor", Modifier.isPublic(c.getModifiers()) && c.getParameterCount() == 0, true);
        }
        int own = 0;
        for (Field f : CookedLaw.class.getDeclaredFields()) {
            boolean isNone = f.getName().equals("NONE");
            Check.due("field " + f.getName(), f.getModifiers() & (Modifier.PUBLIC | Modifier.PRIVATE),
                    isNone ? Modifier.PUBLIC : Modifier.PRIVATE);
            own += Modifier.isStatic(f.getModifiers()) ? 0 : 1;
        }
        Check.due("at most 20 fields", own <= 20, true);
    }

    private static void inside(Class<?> inside) {
        Check.due("static " + inside, Modifier.isStatic(inside.getModifiers()), true);
        int own = 0;
        for (Field f : inside.getDeclaredFields()) {
            own += Modifier.isStatic(f.getModifiers()) ? 0 : 1;
            Check.due("static not final in " + inside, Modifier.isStatic(f.getModifiers())
                    && !Modifier.isFinal(f.getModifiers()), false);
        }
        Check.due("at most 20 fields in " + inside, own <= 20, true);
        for (Method m : inside.getDeclaredMethods()) {
            Check.due("a public name in " + inside + ": " + m.getName(), FACE.contains(m.getName()), false);
            Check.due("at most 7 parameters: " + m.getName(), m.getParameterCount() <= 7, true);
        }
    }
}
