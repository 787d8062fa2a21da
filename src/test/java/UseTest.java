import java.io.IOException;
import java.lang.reflect.Method;
import java.lang.reflect.Modifier;
import java.nio.charset.StandardCharsets;
import java.nio.file.Files;
import java.nio.file.Path;
import java.util.regex.Matcher;
import java.util.regex.Pattern;

/** Makes the calls of README.md as they stand there: each must answer what README.md says of it. */
public final class UseTest {
    private static final String FIRST = "CarriedHistory x = new CarriedHistory();";
    private static final Pattern CALL = Pattern.compile("x\\.(\\w+)\\((.*?)\\); +// (-?\\w+)(?:\\W.*)?");
    private static final Pattern TEXT = Pattern.compile("\"(.{20})\"$");

    private static CarriedHistory x;

    private static void is(Object got, Object due, String what) {
        Desk.is("" + got, "" + due, what);
    }

    private static Method method(String name) {
        for (Method m : CarriedHistory.class.getDeclaredMethods()) {
            if (m.getName().equals(name) && Modifier.isPublic(m.getModifiers())) {
                return m;
            }
        }
        throw new IllegalStateException("README.md calls " + name + ", which is not there");
    }

    private static Object[] numbers(String list) {
        String[] pieces = list.isEmpty() ? new String[0] : list.split(", ");
        Object[] all = new Object[pieces.length];
        for (int i = 0; i < all.length; i++) {
            all[i] = Long.decode(pieces[i]).intValue();
        }
        return all;
    }

    /** What the ints of a feed spell must be the text that stands behind the call. */
    private static void lookAtText(Object[] ints, String line) {
        StringBuilder spelt = new StringBuilder();
        for (Object four : ints) {
            for (int shift = 24; shift >= 0; shift -= 8) {
                spelt.append((char) ((Integer) four >>> shift & 255));
            }
        }
        Matcher text = TEXT.matcher(line);
        is(text.find() ? text.group(1) : "", spelt, "the text of " + line);
    }

    private static void call(String line) throws ReflectiveOperationException {
        Matcher m = CALL.matcher(line);
        if (!m.matches()) {
            throw new IllegalStateException("README.md has a line that is no call with an answer: " + line);
        }
        Object[] ints = numbers(m.group(2));
        if (m.group(1).equals("feed")) {
            lookAtText(ints, line);
        }
        is(method(m.group(1)).invoke(x, ints), m.group(3), line);
    }

    private static int callAll(String block) throws ReflectiveOperationException {
        int calls = 0;
        for (String line : block.split("\n")) {
            if (line.isEmpty() || line.startsWith("//")) {
                continue;
            }
            if (line.equals(FIRST)) {
                x = new CarriedHistory();
            } else {
                call(line);
                calls++;
            }
        }
        return calls;
    }

    private static String spelt(int k) {
        StringBuilder b = new StringBuilder();
        for (int at = 0; x.spelt(k, at) >= 0; at++) {
            b.append((char) x.spelt(k, at));
        }
        return b.toString();
    }

    public static void main(String[] args) throws IOException, ReflectiveOperationException {
        String readme = Files.readString(Path.of("README.md"), StandardCharsets.UTF_8);
        String[] pieces = readme.split("```java\n");
        is(pieces.length, 2, "README.md's blocks of calls");
        String block = pieces[1].substring(0, pieces[1].indexOf("```"));
        is(callAll(block) > 30, true, "that many calls stand there");
        is(spelt(4), "3:x=12:fix#3", "COMMIT 4, as README.md says it");
        for (Method m : CarriedHistory.class.getDeclaredMethods()) {
            if (Modifier.isPublic(m.getModifiers())) {
                is(readme.contains("`" + m.getName() + "`"), true, "that README.md names " + m.getName());
            }
        }
        System.out.println(Desk.right + " passed, " + Desk.wrong + " failed");
        if (Desk.wrong != 0) {
            System.exit(1);
        }
    }
}
