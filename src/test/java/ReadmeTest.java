import java.lang.reflect.Method;
import java.lang.reflect.Modifier;
import java.nio.charset.StandardCharsets;
import java.nio.file.Files;
import java.nio.file.Path;
import java.util.regex.Matcher;
import java.util.regex.Pattern;

/** README.md's example answers as README.md says, and README.md names each call of the face. */
public final class ReadmeTest {
    private static final Pattern TEXT = Pattern.compile("(?s)```text\n(.*?)```");
    private static final Pattern CALL = Pattern.compile("(?m)^law\\.(\\w+)\\((.*?)\\); +// (-?\\d+|true|false)\\b");

    public static void main(String[] args) throws Exception {
        String page = Files.readString(Path.of("README.md"), StandardCharsets.UTF_8);
        Matcher text = TEXT.matcher(page);
        Check.due("a text in README.md", text.find(), true);
        CookedLaw law = Check.land(text.group(1));
        Check.due("the text's bytes", readAsReadmeDoes(new CookedLaw(), text.group(1)), 0);
        int calls = 0;
        for (Matcher call = CALL.matcher(page); call.find(); calls++) {
            Check.due("README.md's " + call.group(1) + "(" + call.group(2) + ")",
                    answer(law, call.group(1), call.group(2)), number(call.group(3)));
        }
        long shown = page.lines().filter(line -> line.startsWith("law.")).count();
        Check.due("calls with an answer in README.md", calls, shown);
        Check.due("some calls in README.md", calls > 20, true);
        namesEachCall(page);
        Check.end("ReadmeTest");
    }

    /** README.md's own way to put a text on the tape, as it stands there. */
    private static int readAsReadmeDoes(CookedLaw law, String text) {
        int pad = (20 - text.length() % 20) % 20;
        byte[] bytes = (text + " ".repeat(pad)).getBytes(java.nio.charset.StandardCharsets.ISO_8859_1);
        java.nio.IntBuffer words = java.nio.ByteBuffer.wrap(bytes).asIntBuffer();
        while (words.hasRemaining()) {
            law.feed(words.get(), words.get(), words.get(), words.get(), words.get());
        }
        Check.due("back of README.md", law.back(pad), text.length());
        return law.read();
    }

    private static long answer(CookedLaw law, String name, String given) throws Exception {
        String[] words = given.isEmpty() ? new String[0] : given.split(", ");
        Class<?>[] types = new Class<?>[words.length];
        Object[] values = new Object[words.length];
        for (int i = 0; i < words.length; i++) {
            types[i] = int.class;
            values[i] = Integer.valueOf(words[i]);
        }
        return number(String.valueOf(CookedLaw.class.getMethod(name, types).invoke(law, values)));
    }

    private static long number(String answer) {
        if (answer.equals("true") || answer.equals("false")) {
            return answer.equals("true") ? 1 : 0;
        }
        return Long.parseLong(answer);
    }

    private static void namesEachCall(String page) {
        for (Method method : CookedLaw.class.getDeclaredMethods()) {
            if (Modifier.isPublic(method.getModifiers())) {
                Check.due("README.md names " + method.getName(), page.contains("`" + method.getName() + "`"), true);
            }
        }
    }
}
