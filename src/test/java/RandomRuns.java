import java.lang.reflect.Method;
import java.util.ArrayList;
import java.util.HashMap;
import java.util.List;
import java.util.Map;
import java.util.Random;

/** Runs of calls made by seeds, each answer held against the Model's; the numbers of runs may be told. */
public final class RandomRuns {
    private static final Map<String, Method> FACE = methods(CarriedHistory.class);
    private static final Map<String, Method> MODEL = methods(Model.class);

    private static final List<String> NAMES = FACE.keySet().stream().filter(n -> !n.equals("undo")).sorted().toList();
    private static final int[] EDGES = {Integer.MIN_VALUE, Integer.MAX_VALUE, -1000, -5, -2, -1, 5, 6, 7, 8, 9, 10, 11,
        12, 13, 15, 16, 19, 20, 21, 25, 26, 31, 32, 63, 64, 119, 120, 121, 127, 128, 129, 130, 160, 161, 240, 241, 255,
        260, 261, 599, 600, 999, 1000};

    private final Random random;
    private final CarriedHistory real = new CarriedHistory();
    private final Model model = new Model();
    private final List<String> told = new ArrayList<>();
    private final int names;
    private final int hours;
    private final int digits;
    private final int roots;
    private final int merges;
    private final int letters;
    private final int shortOnes;
    /** Whether the run fills the store with many COMMITS. */
    private final boolean crowd;
    private int calls;
    private boolean wrong;

    private RandomRuns(long seed) {
        random = new Random(seed);
        names = 2 + random.nextInt(4);
        hours = random.nextBoolean() ? 3 : 40;
        digits = 2 + random.nextInt(8);
        roots = 2 + random.nextInt(12);
        merges = random.nextInt(60);
        letters = 2 + random.nextInt(5);
        shortOnes = random.nextInt(100);
        crowd = random.nextInt(8) == 0;
    }

    private static Map<String, Method> methods(Class<?> c) {
        Map<String, Method> all = new HashMap<>();
        for (Method m : c.getDeclaredMethods()) {
            if (java.lang.reflect.Modifier.isPublic(m.getModifiers())) {
                m.setAccessible(true);
                all.put(m.getName(), m);
            }
        }
        return all;
    }

    private static long answer(Method m, Object on, Object[] args) {
        try {
            Object x = m.invoke(on, args);
            return x instanceof Boolean b ? b ? 1 : 0 : ((Number) x).longValue();
        } catch (ReflectiveOperationException e) {
            throw new IllegalStateException(m + " threw", e);
        }
    }

    private long call(String name, int... args) {
        Object[] boxed = new Object[args.length];
        StringBuilder line = new StringBuilder(name);
        for (int i = 0; i < args.length; i++) {
            boxed[i] = args[i];
            line.append(' ').append(args[i]);
        }
        long got = answer(FACE.get(name), real, boxed);
        long due = answer(MODEL.get(name), model, boxed);
        calls++;
        if (!name.equals("feed")) {
            told.add(line + " = " + got);
        }
        if (got != due && !wrong) {
            wrong = true;
            System.out.println("... " + String.join("\n", told.subList(Math.max(0, told.size() - 60), told.size())));
            System.out.println("due is " + due);
        }
        return due;
    }

    // ---- texts ----

    private boolean chance(int percent) {
        return random.nextInt(100) < percent;
    }

    private String name() {
        return String.valueOf((char) ('a' + random.nextInt(names)));
    }

    private String path(int most) {
        StringBuilder b = new StringBuilder(name());
        for (int i = 1; i < most && chance(45); i++) {
            b.append('/').append(name());
        }
        return b.toString();
    }

    private String pathNear(int k) {
        if (k >= 0 && k < model.commits() && chance(75)) {
            List<String> there = model.paths(k);
            if (!there.isEmpty()) {
                String p = there.get(random.nextInt(there.size()));
                int cut = 1 + 2 * random.nextInt((p.length() + 1) / 2);
                return chance(60) ? p : p.substring(0, cut);
            }
        }
        return path(4);
    }

    private String content() {
        StringBuilder b = new StringBuilder();
        int n = chance(shortOnes) ? 1 : 1 + random.nextInt(6);
        for (int i = 0; i < n; i++) {
            b.append(random.nextInt(digits));
        }
        return b.toString();
    }

    private int someCommit() {
        int n = model.commits();
        if (n == 0 || chance(1)) {
            return random.nextInt(123) - 2;
        }
        return chance(60) ? n - 1 - random.nextInt(Math.min(n, 8)) : random.nextInt(n);
    }

    private String commitText() {
        int n = model.commits();
        StringBuilder b = new StringBuilder();
        int parents = n == 0 || chance(roots) ? 0 : chance(merges) ? 1 + random.nextInt(Math.min(3, n)) : 1;
        int first = -1;
        for (int i = 0; i < parents; i++) {
            int k = someCommit();
            for (int tries = 0; tries < 4 && parents > 1 && b.indexOf("" + k) >= 0; tries++) {
                k = someCommit();
            }
            first = i == 0 ? k : first;
            b.append(i == 0 ? "" : ",").append(chance(3) ? String.format("%03d", Math.max(0, k)) : "" + k);
        }
        b.append(':');
        int edits = random.nextInt(chance(50) ? 3 : 8);
        for (int i = 0; i < edits; i++) {
            b.append(i == 0 ? "" : ";");
            boolean bare = first < 0 || first >= n || model.paths(first).isEmpty();
            int kind = random.nextInt(bare && !chance(3) ? 5 : 10);
            if (kind < 5) {
                b.append('+').append(chance(60) ? pathNear(first) : path(4)).append('=').append(content());
            } else if (kind < 6) {
                b.append('-').append(pathNear(first));
            } else if (kind < 8) {
                b.append('*').append(pathNear(first)).append('>').append(path(4));
            } else {
                b.append('^').append(random.nextInt(Math.max(1, parents + (chance(5) ? 1 : 0)))).append(path(3));
            }
        }
        if (chance(45)) {
            b.append(':').append(message());
        }
        return b.toString();
    }

    private String message() {
        StringBuilder b = new StringBuilder();
        int most = chance(3) ? 14 : 12;
        while (b.length() < most && chance(80)) {
            int kind = random.nextInt(8);
            b.append(kind < 3 ? "#" + someCommit() : kind < 6 ? name() : kind < 7 ? "#" : "" + random.nextInt(30));
        }
        return b.length() > most ? b.substring(0, most) : b.toString();
    }

    private String planText() {
        int from = random.nextInt(chance(85) ? 2 : 4);
        int to = chance(95) ? (from + 1 + random.nextInt(3)) % 4 : random.nextInt(5);
        StringBuilder b = new StringBuilder("from:" + from + ";to:" + to);
        int lines = random.nextInt(7);
        for (int i = 0; i < lines; i++) {
            b.append(';').append(planLine());
        }
        return b.toString();
    }

    private String place() {
        return chance(25) ? "." : chance(50) ? path(2) : pathNear(someCommit());
    }

    private String word() {
        StringBuilder b = new StringBuilder();
        int n = chance(70) ? 1 : 1 + random.nextInt(4);
        for (int i = 0; i < n; i++) {
            b.append(name());
        }
        return b.toString();
    }

    private String planLine() {
        switch (random.nextInt(17)) {
            case 0: return "keep:" + pathNear(someCommit());
            case 1: return "drop:" + pathNear(someCommit());
            case 2:
            case 3: return "move:" + place() + ">" + place();
            case 4: return "swap:" + content() + ">" + content();
            case 5:
            case 6: return "word:" + word() + ">" + word();
            case 7:
            case 8:
                int k = someCommit();
                return "graft:" + k + ">" + (chance(30) || k < 1 ? "." : "" + random.nextInt(k + (chance(5) ? 1 : 0)));
            case 9: return "sign:" + random.nextInt(4) + ">" + random.nextInt(10);
            case 10: return "skip:" + random.nextInt(4);
            case 11:
            case 12: return "merges:" + random.nextInt(chance(5) ? 5 : 4);
            case 13: return "empty:" + random.nextInt(chance(5) ? 4 : 3);
            case 14: return "tags:" + random.nextInt(chance(5) ? 4 : 3);
            case 15: return "since:" + random.nextInt(hours);
            default: return "most:" + random.nextInt(8);
        }
    }

    private String spoilt(String text) {
        StringBuilder b = new StringBuilder(text);
        String signs = "abz019/:;,+-*^=>.#? ";
        int times = 1 + random.nextInt(2);
        for (int i = 0; i < times && b.length() > 0; i++) {
            int at = random.nextInt(b.length());
            char sign = signs.charAt(random.nextInt(signs.length()));
            switch (random.nextInt(4)) {
                case 0 -> b.setCharAt(at, sign);
                case 1 -> b.insert(at, sign);
                case 2 -> b.deleteCharAt(at);
                default -> b.setLength(at);
            }
        }
        return b.toString();
    }

    /** The text is on the tape then; how many bytes of it are asked for. */
    private int feedText(String text, int most) {
        String cut = text.length() > most ? text.substring(0, most) : text;
        told.add("    '" + cut + "'");
        if (model.count(1) > 0 && !cut.isEmpty()) {
            call("check", 0);
        }
        for (int at = 0; at < cut.length(); at += 20) {
            int[] five = new int[5];
            for (int i = 0; i < 20; i++) {
                int sign = at + i < cut.length() ? cut.charAt(at + i) : random.nextInt(256);
                five[i / 4] = five[i / 4] << 8 | sign;
            }
            call("feed", five);
        }
        return cut.length();
    }

    // ---- calls ----

    private void makeCommit() {
        String text = chance(10) ? spoilt(commitText()) : commitText();
        int n = feedText(text, 160) + (chance(1) ? random.nextInt(40) - 20 : 0);
        call("commit", n, chance(1) ? 10 : random.nextInt(chance(80) ? 3 : 10), chance(1) ? 1000 : random.nextInt(hours));
    }

    private void makePlan() {
        String text = chance(25) ? spoilt(planText()) : planText();
        int n = feedText(text, 240) + (chance(1) ? random.nextInt(40) - 20 : 0);
        call("plan", random.nextInt(chance(2) ? 6 : 3), n);
    }

    private int letter() {
        return random.nextInt(chance(1) ? 28 : letters) - (chance(1) ? 1 : 0);
    }

    private int history() {
        return chance(1) ? random.nextInt(7) - 1 : random.nextInt(4);
    }

    private void change() {
        int kind = random.nextInt(100);
        if (crowd && chance(20)) {
            makeHollow();
        } else if (kind < 42) {
            makeCommit();
        } else if (kind < 50) {
            makePlan();
        } else if (kind < 64) {
            call("ref", chance(70) ? random.nextInt(2) : history(), random.nextInt(chance(2) ? 3 : 2), letter(),
                chance(8) ? -1 : someCommit());
        } else if (kind < 76) {
            call("run", random.nextInt(chance(3) ? 5 : 3));
        } else if (kind < 80) {
            call("again", random.nextInt(chance(3) ? 5 : 3));
        } else if (kind < 87) {
            call("join", random.nextInt(chance(90) ? 2 : 4), letter(), letter(), random.nextInt(chance(2) ? 12 : 3), random.nextInt(hours));
        } else if (kind < 96) {
            call("replay", random.nextInt(chance(90) ? 2 : 4), letter(), someCommit());
        } else if (chance(crowd ? 10 : 60)) {
            call("keep");
        } else if (chance(30)) {
            call("undo");
        }
    }

    /** A COMMIT of few bytes, to come to the most that there can be. */
    private void makeHollow() {
        int n = feedText((model.commits() > 0 ? "" + (model.commits() - 1) : "") + ":", 160);
        call("commit", n, random.nextInt(3), random.nextInt(1000));
    }

    private int small(int most) {
        return chance(3) ? random.nextInt(200) - 40 : random.nextInt(most);
    }

    private void ask() {
        switch (random.nextInt(30)) {
            case 28, 29 -> wild();
            case 0 -> call("commitIs", someCommit(), small(14));
            case 1 -> call("spelt", someCommit(), small(60));
            case 2 -> call("look", someCommit(), feedText(chance(5) ? spoilt(path(6)) : path(6), 11), small(4));
            case 3 -> call("look", someCommit(), feedText(pathNear(someCommit()), 11), small(4));
            case 4 -> call("planIs", small(4), small(21));
            case 5 -> call("image", small(4), someCommit(), small(2));
            case 6 -> call("tried", small(4), someCommit(), small(4));
            case 7 -> call("share", small(4));
            case 8, 9, 10 -> call("sound", small(4), small(6));
            case 11 -> call("refIs", small(4), small(8), small(4));
            case 12 -> call("historyIs", small(4), small(7));
            case 13 -> call("listing", small(4), small(30));
            case 14 -> call("ancestor", someCommit(), someCommit());
            case 15 -> call("base", someCommit(), someCommit(), chance(50) ? 0 : small(4) + 10);
            case 16 -> call("way", someCommit(), someCommit());
            case 17 -> call("halving", someCommit(), someCommit(), small(3));
            case 18 -> call("diff", someCommit(), someCommit(), small(4));
            case 19 -> call("renamed", someCommit(), someCommit(), small(4), small(4));
            case 20 -> call("likeness", someCommit(), small(8), someCommit(), small(8), small(2));
            case 21, 22 -> call("origin", someCommit(), small(8), small(5));
            case 23 -> call("touches", small(4), feedText(pathNear(someCommit()), 11));
            case 24 -> call("apart", small(4), small(4), small(4));
            case 25 -> call("picked", small(4), someCommit());
            case 26 -> call("line", someCommit(), small(20));
            default -> call("count", small(6));
        }
    }

    /** Any call, with numbers from the edges of what may be and from far outside. */
    private void wild() {
        String name = NAMES.get(random.nextInt(NAMES.size()));
        int[] args = new int[FACE.get(name).getParameterCount()];
        for (int i = 0; i < args.length; i++) {
            args[i] = chance(60) ? random.nextInt(5) : EDGES[random.nextInt(EDGES.length)];
        }
        call(name, args);
    }

    /** All that stands, asked one by one. */
    private void askAll() {
        int n = model.commits();
        for (int what = 0; what < 6; what++) {
            call("count", what);
        }
        for (int k = 0; k < n; k++) {
            askPair(random.nextInt(n), k);
            for (int what = 0; what < 13; what++) {
                call("commitIs", k, what);
            }
            for (int at = 0; at <= model.spell(k).length(); at++) {
                call("spelt", k, at);
            }
            int files = (int) call("commitIs", k, 3);
            for (int i = 0; i < files; i++) {
                for (int what = 0; what < 5; what++) {
                    call("origin", k, i, what);
                }
            }
        }
        for (int p = 0; p < 4; p++) {
            for (int what = 0; what < 21; what++) {
                call("planIs", p, what);
            }
            for (int what = 0; what < 6; what++) {
                call("sound", p, what);
            }
            call("share", p);
            for (int k = 0; k < n; k++) {
                call("image", p, k, 0);
                call("image", p, k, 1);
                for (int what = 0; what < 4; what++) {
                    call("tried", p, k, what);
                }
                call("picked", p, k);
            }
            for (int i = 0; i < 8; i++) {
                for (int what = 0; what < 4; what++) {
                    call("refIs", p, i, what);
                }
            }
            for (int what = 0; what < 7; what++) {
                call("historyIs", p, what);
            }
        }
    }

    private void askPair(int j, int k) {
        call("ancestor", j, k);
        call("way", j, k);
        call("line", k, random.nextInt(6));
        call("base", j, k, 0);
        call("base", j, k, 10 + random.nextInt(3));
        for (int what = 0; what < 4; what++) {
            call("halving", j, k, what);
            call("diff", j, k, what);
            call("renamed", j, k, random.nextInt(3), what);
            call("likeness", j, random.nextInt(4), k, random.nextInt(4), what);
        }
        int h = random.nextInt(4);
        call("listing", h, random.nextInt(n(h) + 2));
        call("apart", h, random.nextInt(4), random.nextInt(4));
        call("touches", random.nextInt(2), feedText(pathNear(k), 11));
        call("look", k, feedText(pathNear(k), 11), random.nextInt(4));
    }

    private int n(int h) {
        return (int) call("historyIs", h, 1);
    }

    private boolean isRight() {
        int most = 40 + random.nextInt(470);
        int asks = random.nextInt(70);
        for (int i = 0; i < 4; i++) {
            makeCommit();
            call("ref", random.nextInt(2), 0, letter(), someCommit());
        }
        makePlan();
        int filled = crowd ? 90 + random.nextInt(31) : 0;
        while (model.commits() < filled && calls < 300) {
            makeHollow();
        }
        while (calls < most && !wrong) {
            if (chance(asks)) {
                ask();
            } else {
                change();
            }
        }
        if (!wrong) {
            askAll();
        }
        return !wrong;
    }

    public static void main(String[] args) {
        int first = args.length > 0 ? Integer.parseInt(args[0]) : 1;
        int last = args.length > 1 ? Integer.parseInt(args[1]) : 300;
        int failed = 0;
        for (int seed = first; seed <= last; seed++) {
            if (!new RandomRuns(seed).isRight()) {
                failed++;
                System.out.println("run of seed " + seed + " is wrong");
            }
        }
        System.out.println((last - first + 1 - failed) + " passed, " + failed + " failed");
        if (failed > 0) {
            System.exit(1);
        }
    }
}
