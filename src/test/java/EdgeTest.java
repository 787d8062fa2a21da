import java.io.IOException;
import java.lang.reflect.Method;
import java.nio.file.Files;
import java.nio.file.Path;
import java.util.ArrayList;
import java.util.Arrays;
import java.util.Comparator;
import java.util.List;

/**
 * Runs each test of a sentence on a desk of its own. What a test says to hold must stand in the document, in the part
 * that it names; and each word of the terms and of the promises must be said by some test.
 */
public final class EdgeTest {
    private static final List<Class<? extends Desk>> TESTS = List.of(EdgesOfCommits.class, EdgesOfPlans.class,
        EdgesOfCarrying.class, EdgesOfTerms.class, EdgesOfTelling.class, EdgesOfAsking.class, EdgesOfMany.class);

    /** Part 0: what stands ahead of the promises and behind them. */
    private static final List<String> PARTS = new ArrayList<>();
    private static final List<boolean[]> SAID = new ArrayList<>();

    private static String plain(String text) {
        return text.replaceAll("\\s+", " ").strip();
    }

    private static void readDocument() throws IOException {
        String text = Files.readString(Path.of("../shared/DOC.md"));
        int end = text.indexOf("## Not promised");
        String[] pieces = text.substring(0, end).split("## Promise \\d+: ");
        pieces[0] += text.substring(end);
        for (String piece : pieces) {
            PARTS.add(plain(piece));
            SAID.add(new boolean[plain(piece).length()]);
        }
    }

    private static void say(Says says) {
        String part = says.promise() < PARTS.size() ? PARTS.get(says.promise()) : "";
        String said = plain(says.value());
        int at = part.indexOf(said);
        Desk.is(at >= 0 && !said.isEmpty(), true, "that the document says so there");
        for (; at >= 0 && !said.isEmpty(); at = part.indexOf(said, at + 1)) {
            Arrays.fill(SAID.get(says.promise()), at, at + said.length(), true);
        }
    }

    private static void run(Class<? extends Desk> type, Method m) throws ReflectiveOperationException {
        Says says = m.getAnnotation(Says.class);
        Desk.where = type.getSimpleName() + "." + m.getName() + ", promise " + says.promise() + " \"" + says.value() + "\"";
        say(says);
        int before = Desk.right + Desk.wrong;
        m.setAccessible(true);
        m.invoke(type.getDeclaredConstructor().newInstance());
        Desk.is(Desk.right + Desk.wrong > before, true, "that something is asked");
    }

    /** The signature, the terms' headings and the like need no test of their own here. */
    private static int firstToSay(int part) {
        String text = PARTS.get(part);
        return part == 0 ? text.indexOf("==== 1. ") + 8 : text.indexOf("`: ") + 3;
    }

    private static void lookForWhatNoTestSays() {
        for (int part = 0; part < PARTS.size(); part++) {
            String text = PARTS.get(part);
            int end = part == 0 ? text.indexOf("## Not promised") : text.length();
            StringBuilder rest = new StringBuilder();
            for (int i = firstToSay(part); i < end; i++) {
                rest.append(SAID.get(part)[i] ? '\n' : text.charAt(i));
            }
            for (String piece : rest.toString().replace("```text", "").replace("```", "").replace("==== 2.", "").split("\n")) {
                Desk.where = "promise " + part;
                Desk.is(piece.replaceAll("[^A-Za-z0-9]", ""), "", "what no test says, of \"" + piece.strip() + "\",");
            }
        }
    }

    public static void main(String[] args) throws IOException, ReflectiveOperationException {
        readDocument();
        Desk.is(PARTS.size(), 37, "the parts of the document");
        int tests = 0;
        for (Class<? extends Desk> type : TESTS) {
            Method[] all = type.getDeclaredMethods();
            Arrays.sort(all, Comparator.comparing(Method::getName));
            for (Method m : all) {
                if (m.isAnnotationPresent(Says.class)) {
                    run(type, m);
                    tests++;
                }
            }
        }
        lookForWhatNoTestSays();
        System.out.println(tests + " sentences: " + Desk.right + " passed, " + Desk.wrong + " failed");
        if (Desk.wrong != 0) {
            System.exit(1);
        }
    }
}
