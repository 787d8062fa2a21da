import java.util.ArrayDeque;
import java.util.ArrayList;
import java.util.Collections;
import java.util.Deque;
import java.util.HashMap;
import java.util.HashSet;
import java.util.LinkedHashMap;
import java.util.List;
import java.util.Map;
import java.util.Objects;
import java.util.Set;
import java.util.TreeMap;
import java.util.TreeSet;

/**
 * The document once more, told with texts, lists and maps and without a thought for speed: what
 * RandomRuns holds CarriedHistory against. It shares no code and no way of holding things with it.
 */
final class Model {
    static final class Fault extends Exception {
        final int code;

        Fault(int number, int place) {
            code = -1000 * number - place;
        }
    }

    static final class Refused extends Exception {
        final int code;

        Refused(int code) {
            this.code = code;
        }
    }

    record Node(List<Integer> parents, TreeMap<String, String> tree, String message, int who, int hour) { }

    record Ref(int commit, int laid) { }

    static final class Told {
        int from;
        int to;
        int lines;
        List<String> keeps = new ArrayList<>();
        List<String> drops = new ArrayList<>();
        Map<String, String> moves = new LinkedHashMap<>();
        Map<String, String> swaps = new HashMap<>();
        Map<String, String> words = new HashMap<>();
        Map<Integer, Integer> grafts = new HashMap<>();
        Map<Integer, Integer> signs = new HashMap<>();
        Set<Integer> skips = new HashSet<>();
        int merges = 1;
        int empty = 2;
        int tags = 2;
        int since = 0;
        int most = 6;
        TreeMap<Integer, Integer> images = new TreeMap<>();
        TreeMap<Integer, Integer> fates = new TreeMap<>();

        Told twin() {
            Told t = new Told();
            t.from = from;
            t.to = to;
            t.lines = lines;
            t.keeps = keeps;
            t.drops = drops;
            t.moves = moves;
            t.swaps = swaps;
            t.words = words;
            t.grafts = grafts;
            t.signs = signs;
            t.skips = skips;
            t.merges = merges;
            t.empty = empty;
            t.tags = tags;
            t.since = since;
            t.most = most;
            t.images = new TreeMap<>(images);
            t.fates = new TreeMap<>(fates);
            return t;
        }
    }

    private StringBuilder tape = new StringBuilder();
    private List<Node> nodes = new ArrayList<>();
    /** Keys: b or t, and the letter; so they stand in the order of REFS. */
    private List<TreeMap<String, Ref>> refs = new ArrayList<>();
    private Told[] plans = new Told[4];
    private List<Node> savedNodes;
    private List<TreeMap<String, Ref>> savedRefs;
    private Told[] savedPlans;

    Model() {
        for (int i = 0; i < 4; i++) {
            refs.add(new TreeMap<>());
        }
    }

    // ---- small helps ----

    private boolean is(int k) {
        return k >= 0 && k < nodes.size();
    }

    private static boolean in(int x, int low, int high) {
        return x >= low && x <= high;
    }

    private String takeTape(int n) {
        String text = tape.substring(0, n);
        tape = new StringBuilder();
        return text;
    }

    static boolean below(String beginning, String path) {
        return path.startsWith(beginning + "/");
    }

    static boolean atOrBelow(String place, String path) {
        return place.equals(path) || below(place, path);
    }

    static TreeMap<String, String> part(TreeMap<String, String> tree, String path) {
        TreeMap<String, String> part = new TreeMap<>();
        for (String p : tree.keySet()) {
            if (atOrBelow(path, p)) {
                part.put(p, tree.get(p));
            }
        }
        return part;
    }

    private static boolean clashes(TreeMap<String, String> tree) {
        for (String a : tree.keySet()) {
            for (String b : tree.keySet()) {
                if (below(a, b)) {
                    return true;
                }
            }
        }
        return false;
    }

    private TreeSet<Integer> ancestors(int k) {
        TreeSet<Integer> all = new TreeSet<>();
        Deque<Integer> open = new ArrayDeque<>(nodes.get(k).parents());
        while (!open.isEmpty()) {
            int p = open.pop();
            if (all.add(p)) {
                open.addAll(nodes.get(p).parents());
            }
        }
        return all;
    }

    private TreeSet<Integer> withAncestors(int k) {
        TreeSet<Integer> all = ancestors(k);
        all.add(k);
        return all;
    }

    private List<Integer> fore(Told plan, int k) {
        if (!plan.grafts.containsKey(k)) {
            return nodes.get(k).parents();
        }
        int to = plan.grafts.get(k);
        return to < 0 ? List.of() : List.of(to);
    }

    private TreeSet<Integer> elders(Told plan, int k) {
        TreeSet<Integer> all = new TreeSet<>();
        Deque<Integer> open = new ArrayDeque<>(fore(plan, k));
        while (!open.isEmpty()) {
            int p = open.pop();
            if (all.add(p)) {
                open.addAll(fore(plan, p));
            }
        }
        return all;
    }

    private TreeSet<Integer> ofHistory(int h) {
        TreeSet<Integer> all = new TreeSet<>();
        for (Ref r : refs.get(h).values()) {
            all.addAll(withAncestors(r.commit()));
        }
        return all;
    }

    private TreeSet<Integer> ofPlan(Told plan) {
        TreeSet<Integer> all = new TreeSet<>();
        for (Ref r : refs.get(plan.from).values()) {
            all.add(r.commit());
            all.addAll(elders(plan, r.commit()));
        }
        return all;
    }

    private TreeMap<String, String> firstTree(Node n) {
        return n.parents().isEmpty() ? new TreeMap<>() : nodes.get(n.parents().get(0)).tree();
    }

    private int settle(Node n) throws Refused {
        int there = nodes.indexOf(n);
        if (there >= 0) {
            return there;
        }
        if (nodes.size() == 120) {
            throw new Refused(-3);
        }
        nodes.add(n);
        return nodes.size() - 1;
    }

    // ---- texts ----

    private static final class Text {
        final String text;
        int at;

        Text(String text) {
            this.text = text;
        }

        boolean over() {
            return at >= text.length();
        }

        char sign() {
            return over() ? '\0' : text.charAt(at);
        }

        boolean sees(String signs) {
            return !over() && signs.indexOf(text.charAt(at)) >= 0;
        }

        void need(char c) throws Fault {
            if (over() || sign() != c) {
                throw new Fault(1, at);
            }
            at++;
        }

        String many(String signs, int most) throws Fault {
            StringBuilder b = new StringBuilder();
            while (sees(signs)) {
                if (b.length() == most) {
                    throw new Fault(2, at);
                }
                b.append(sign());
                at++;
            }
            if (b.length() == 0) {
                throw new Fault(1, at);
            }
            return b.toString();
        }

        String path(int most) throws Fault {
            StringBuilder b = new StringBuilder();
            for (int names = 0; ; names++) {
                if (!sees(LETTERS)) {
                    throw new Fault(1, at);
                }
                if (names == most) {
                    throw new Fault(5, at);
                }
                b.append(sign());
                at++;
                if (!sees("/")) {
                    return b.toString();
                }
                b.append('/');
                at++;
            }
        }

        int choice(int low, int high) throws Fault {
            if (!sees(DIGITS)) {
                throw new Fault(1, at);
            }
            int d = sign() - '0';
            if (d < low || d > high) {
                throw new Fault(3, at);
            }
            at++;
            return d;
        }
    }

    private static final String LETTERS = "abcdefghijklmnopqrstuvwxyz";
    private static final String DIGITS = "0123456789";

    private Node readNode(String told, int who, int hour) throws Fault {
        Text t = new Text(told);
        List<Integer> parents = new ArrayList<>();
        if (!t.sees(":")) {
            while (true) {
                int start = t.at;
                if (t.sees(DIGITS) && parents.size() == 3) {
                    throw new Fault(4, start);
                }
                int k = Integer.parseInt(t.many(DIGITS, 3));
                if (k >= nodes.size()) {
                    throw new Fault(9, start);
                }
                if (parents.contains(k)) {
                    throw new Fault(6, start);
                }
                parents.add(k);
                if (!t.sees(",")) {
                    break;
                }
                t.at++;
            }
        }
        t.need(':');
        TreeMap<String, String> tree = new TreeMap<>();
        if (!parents.isEmpty()) {
            tree.putAll(nodes.get(parents.get(0)).tree());
        }
        if (!t.over() && !t.sees(":")) {
            readEdit(t, tree, parents);
            while (t.sees(";")) {
                t.at++;
                readEdit(t, tree, parents);
            }
        }
        StringBuilder message = new StringBuilder();
        if (!t.over()) {
            t.need(':');
            while (!t.over()) {
                if (message.length() == 12) {
                    throw new Fault(2, t.at);
                }
                if (!t.sees(LETTERS + DIGITS + "#")) {
                    throw new Fault(1, t.at);
                }
                message.append(t.sign());
                t.at++;
            }
        }
        return new Node(parents, tree, message.toString(), who, hour);
    }

    private void readEdit(Text t, TreeMap<String, String> tree, List<Integer> parents) throws Fault {
        int start = t.at;
        if (!t.sees("+-*^")) {
            throw new Fault(1, t.at);
        }
        char sign = t.sign();
        t.at++;
        TreeMap<String, String> coming = new TreeMap<>();
        int d = sign == '^' ? t.choice(0, parents.size() - 1) : -1;
        String path = t.path(4);
        String goal = path;
        Set<String> going = new TreeSet<>();
        if (sign == '+') {
            t.need('=');
            coming.put(path, t.many(DIGITS, 6));
            going.add(path);
        }
        if (sign == '-' || sign == '*' || sign == '^') {
            going.addAll(part(tree, path).keySet());
        }
        if (sign == '^') {
            coming.putAll(part(nodes.get(parents.get(d)).tree(), path));
        }
        if (sign == '*') {
            t.need('>');
            goal = t.path(4);
            for (String p : going) {
                coming.put(goal + p.substring(path.length()), tree.get(p));
            }
        }
        if ((sign == '-' || sign == '*') && going.isEmpty()) {
            throw new Fault(8, start);
        }
        boolean folder = !tree.containsKey(path) && !part(tree, path).isEmpty();
        if (sign == '+' && folder || sign == '*' && (!part(tree, goal).isEmpty() || below(path, goal))) {
            throw new Fault(7, start);
        }
        for (String p : tree.keySet()) {
            if (sign != '-' && !coming.isEmpty() && below(p, goal)) {
                throw new Fault(7, start);
            }
        }
        for (String p : coming.keySet()) {
            if (sign == '*' && p.length() > 11) {
                throw new Fault(5, start);
            }
        }
        TreeMap<String, String> next = new TreeMap<>(tree);
        next.keySet().removeAll(going);
        next.putAll(coming);
        if (next.size() > 16) {
            throw new Fault(4, start);
        }
        tree.clear();
        tree.putAll(next);
    }

    private Told readPlan(String text) throws Fault {
        Text t = new Text(text);
        Told p = new Told();
        Set<String> once = new HashSet<>();
        Map<String, Integer> told = new HashMap<>();
        while (true) {
            int start = t.at;
            StringBuilder b = new StringBuilder();
            while (t.sees(LETTERS)) {
                b.append(t.sign());
                t.at++;
            }
            String word = b.toString();
            List<String> may = p.lines == 0 ? List.of("from") : p.lines == 1 ? List.of("to")
                : List.of("keep", "drop", "move", "swap", "word", "graft", "sign", "skip", "merges", "empty", "tags",
                    "since", "most");
            if (!may.contains(word)) {
                throw new Fault(1, start);
            }
            int before = told.merge(word, 1, Integer::sum) - 1;
            if (List.of("keep", "drop", "move", "swap", "word", "graft").contains(word) && before == 4) {
                throw new Fault(4, start);
            }
            if (List.of("merges", "empty", "tags", "since", "most").contains(word) && !once.add(word)) {
                throw new Fault(6, start);
            }
            t.need(':');
            readLine(t, p, word, start);
            p.lines++;
            if (t.over() && p.lines > 1) {
                return p;
            }
            t.need(';');
        }
    }

    private String place(Text t) throws Fault {
        if (t.sees(".")) {
            t.at++;
            return "";
        }
        return t.path(4);
    }

    private int commitNumber(Text t) throws Fault {
        int start = t.at;
        int k = Integer.parseInt(t.many(DIGITS, 3));
        if (k >= nodes.size()) {
            throw new Fault(9, start);
        }
        return k;
    }

    private static void unlike(Map<?, ?> map, Object key, int start) throws Fault {
        if (map.containsKey(key)) {
            throw new Fault(6, start);
        }
    }

    private void readLine(Text t, Told p, String word, int start) throws Fault {
        switch (word) {
            case "from" -> p.from = t.choice(0, 3);
            case "to" -> {
                int at = t.at;
                p.to = t.choice(0, 3);
                if (p.to == p.from) {
                    throw new Fault(3, at);
                }
            }
            case "keep" -> p.keeps.add(t.path(4));
            case "drop" -> p.drops.add(t.path(4));
            case "move" -> {
                String a = place(t);
                unlike(p.moves, a, start);
                t.need('>');
                p.moves.put(a, place(t));
            }
            case "swap" -> {
                String a = t.many(DIGITS, 6);
                unlike(p.swaps, a, start);
                t.need('>');
                p.swaps.put(a, t.many(DIGITS, 6));
            }
            case "word" -> {
                String a = t.many(LETTERS, 4);
                unlike(p.words, a, start);
                t.need('>');
                p.words.put(a, t.many(LETTERS, 4));
            }
            case "graft" -> {
                int a = commitNumber(t);
                unlike(p.grafts, a, start);
                t.need('>');
                int at = t.at;
                if (t.sees(".")) {
                    t.at++;
                    p.grafts.put(a, -1);
                } else {
                    int b = commitNumber(t);
                    if (b >= a) {
                        throw new Fault(7, at);
                    }
                    p.grafts.put(a, b);
                }
            }
            case "sign" -> {
                int a = t.choice(0, 9);
                unlike(p.signs, a, start);
                t.need('>');
                p.signs.put(a, t.choice(0, 9));
            }
            case "skip" -> p.skips.add(t.choice(0, 9));
            case "merges" -> p.merges = t.choice(0, 3);
            case "empty" -> p.empty = t.choice(0, 2);
            case "tags" -> p.tags = t.choice(0, 2);
            case "since" -> p.since = Integer.parseInt(t.many(DIGITS, 3));
            default -> p.most = t.choice(1, 6);
        }
    }

    // ---- rewriting ----

    private static final class Carried {
        final TreeMap<String, String> tree = new TreeMap<>();
        int taken;
        int lost;
    }

    private Carried carry(Told p, int k) {
        Carried c = new Carried();
        for (Map.Entry<String, String> f : nodes.get(k).tree().entrySet()) {
            String path = f.getKey();
            boolean kept = p.keeps.isEmpty() || p.keeps.stream().anyMatch(x -> atOrBelow(x, path));
            boolean dropped = p.drops.stream().anyMatch(x -> atOrBelow(x, path));
            if (f.getValue().length() > p.most || !kept || dropped) {
                continue;
            }
            c.taken++;
            String best = null;
            for (String m : p.moves.keySet()) {
                if ((m.isEmpty() || atOrBelow(m, path)) && (best == null || m.length() > best.length())) {
                    best = m;
                }
            }
            List<String> names = new ArrayList<>(List.of(path.split("/")));
            if (best != null) {
                int cut = best.isEmpty() ? 0 : best.split("/").length;
                List<String> rest = names.subList(cut, names.size());
                List<String> now = new ArrayList<>();
                String second = p.moves.get(best);
                if (!second.isEmpty()) {
                    now.addAll(List.of(second.split("/")));
                }
                now.addAll(rest);
                names = now;
            }
            String place = String.join("/", names);
            boolean lost = names.isEmpty() || names.size() > 6;
            for (String x : c.tree.keySet()) {
                lost |= x.equals(place) || below(x, place) || below(place, x);
            }
            if (lost) {
                c.lost++;
            } else {
                c.tree.put(place, p.swaps.getOrDefault(f.getValue(), f.getValue()));
            }
        }
        return c;
    }

    private String words(Told p, int k, Map<Integer, Integer> images) {
        String m = nodes.get(k).message();
        Set<Integer> elders = elders(p, k);
        StringBuilder b = new StringBuilder();
        int i = 0;
        while (i < m.length()) {
            char c = m.charAt(i);
            int end = i + 1;
            if (c == '#') {
                while (end < m.length() && Character.isDigit(m.charAt(end))) {
                    end++;
                }
                String digits = m.substring(i + 1, end);
                boolean mention = digits.matches("0|[1-9][0-9]{0,2}");
                if (mention && elders.contains(Integer.parseInt(digits))) {
                    Integer image = images.get(Integer.parseInt(digits));
                    b.append('#').append(image == null || image < 0 ? "?" : image.toString());
                } else {
                    b.append('#').append(digits);
                }
            } else if (Character.isLetter(c)) {
                while (end < m.length() && Character.isLetter(m.charAt(end))) {
                    end++;
                }
                String word = m.substring(i, end);
                b.append(p.words.getOrDefault(word, word));
            } else {
                b.append(c);
            }
            i = end;
        }
        return b.length() > 24 ? b.substring(0, 24) : b.toString();
    }

    private List<Integer> newParents(Told p, int k, TreeMap<String, String> tree, Map<Integer, Integer> images) {
        List<Integer> all = new ArrayList<>();
        List<Integer> as = new ArrayList<>();
        for (int f : fore(p, k)) {
            int image = images.get(f);
            if (image >= 0 && !all.contains(image)) {
                all.add(image);
                as.add(f);
            }
        }
        List<Integer> stay = new ArrayList<>();
        for (int i = 0; i < all.size(); i++) {
            boolean goes = false;
            for (int j = 0; j < all.size(); j++) {
                boolean above = ancestors(all.get(j)).contains(all.get(i));
                boolean was = elders(p, as.get(j)).contains(as.get(i));
                goes |= p.merges == 1 ? above && !was : p.merges > 1 && above;
            }
            if (!goes) {
                stay.add(all.get(i));
            }
        }
        if (p.merges == 3 && stay.size() > 1) {
            for (int x : stay) {
                if (nodes.get(x).tree().equals(tree)) {
                    return List.of(x);
                }
            }
        }
        return stay;
    }

    private void rewrite(Told p, int k, Map<Integer, Integer> images, Map<Integer, Integer> fates) throws Refused {
        TreeMap<String, String> tree = carry(p, k).tree;
        List<Integer> parents = newParents(p, k, tree, images);
        Node old = nodes.get(k);
        boolean empty = parents.isEmpty() && tree.isEmpty()
            || parents.size() == 1 && nodes.get(parents.get(0)).tree().equals(tree);
        List<Integer> fore = fore(p, k);
        boolean itself = fore.isEmpty() && old.tree().isEmpty()
            || fore.size() == 1 && nodes.get(fore.get(0)).tree().equals(old.tree());
        if (p.empty == 0 || p.empty == 1 && itself) {
            empty = false;
        }
        boolean skipped = !empty && parents.size() < 2 && (p.skips.contains(old.who()) || old.hour() < p.since);
        if (empty || skipped) {
            images.put(k, parents.isEmpty() ? -1 : parents.get(0));
            fates.put(k, empty ? 1 : 2);
            return;
        }
        int who = p.signs.getOrDefault(old.who(), old.who());
        images.put(k, settle(new Node(parents, tree, words(p, k, images), who, old.hour())));
        fates.put(k, 0);
    }

    private int carryAll(int number, boolean anew) throws Refused {
        Told p = plans[number];
        if (p == null) {
            throw new Refused(-2);
        }
        List<Node> before = new ArrayList<>(nodes);
        TreeMap<Integer, Integer> images = anew ? new TreeMap<>() : new TreeMap<>(p.images);
        TreeMap<Integer, Integer> fates = anew ? new TreeMap<>() : new TreeMap<>(p.fates);
        int rewritten = 0;
        try {
            for (int k : ofPlan(p)) {
                if (!images.containsKey(k)) {
                    rewrite(p, k, images, fates);
                    rewritten++;
                }
            }
            TreeMap<String, Ref> to = new TreeMap<>(refs.get(p.to));
            to.values().removeIf(r -> r.laid() == number);
            for (Map.Entry<String, Ref> r : refs.get(p.from).entrySet()) {
                int k = r.getValue().commit();
                boolean tag = r.getKey().startsWith("t");
                if (tag && (p.tags == 0 || p.tags == 1 && fates.get(k) != 0) || images.get(k) < 0) {
                    continue;
                }
                to.put(r.getKey(), new Ref(images.get(k), number));
            }
            if (to.size() > 8) {
                throw new Refused(-5);
            }
            p.images = images;
            p.fates = fates;
            refs.set(p.to, to);
            return anew ? nodes.size() - before.size() : rewritten;
        } catch (Refused r) {
            nodes = before;
            throw r;
        }
    }

    // ---- the face ----

    public int feed(int a, int b, int c, int d, int e) {
        if (tape.length() > 240) {
            return -1;
        }
        for (int x : new int[] {a, b, c, d, e}) {
            for (int s = 24; s >= 0; s -= 8) {
                tape.append((char) (x >> s & 255));
            }
        }
        return tape.length();
    }

    public int commit(int n, int who, int hour) {
        if (!in(n, 1, 160) || n > tape.length() || !in(who, 0, 9) || !in(hour, 0, 999)) {
            return -1;
        }
        try {
            return settle(readNode(takeTape(n), who, hour));
        } catch (Fault f) {
            return f.code;
        } catch (Refused r) {
            return r.code;
        }
    }

    public int plan(int p, int n) {
        if (!in(p, 0, 3) || !in(n, 1, 240) || n > tape.length()) {
            return -1;
        }
        try {
            plans[p] = readPlan(takeTape(n));
            return plans[p].lines;
        } catch (Fault f) {
            return f.code;
        }
    }

    private static String key(int kind, int letter) {
        return (kind == 0 ? "b" : "t") + (char) ('a' + letter);
    }

    public int ref(int h, int kind, int letter, int k) {
        if (!in(h, 0, 3) || !in(kind, 0, 1) || !in(letter, 0, 25) || k != -1 && !is(k)) {
            return -1;
        }
        TreeMap<String, Ref> m = refs.get(h);
        String key = key(kind, letter);
        if (k == -1) {
            return m.remove(key) == null ? -4 : m.size();
        }
        if (!m.containsKey(key) && m.size() == 8) {
            return -5;
        }
        m.put(key, new Ref(k, -1));
        return m.size();
    }

    public int run(int p) {
        try {
            return in(p, 0, 3) ? carryAll(p, false) : -1;
        } catch (Refused r) {
            return r.code;
        }
    }

    public int again(int p) {
        try {
            return in(p, 0, 3) ? carryAll(p, true) : -1;
        } catch (Refused r) {
            return r.code;
        }
    }

    public int join(int h, int a, int b, int who, int hour) {
        if (!in(h, 0, 3) || !in(a, 0, 25) || !in(b, 0, 25) || a == b || !in(who, 0, 9) || !in(hour, 0, 999)) {
            return -1;
        }
        Ref x = refs.get(h).get(key(0, a));
        Ref y = refs.get(h).get(key(0, b));
        if (x == null || y == null) {
            return -4;
        }
        if (withAncestors(x.commit()).contains(y.commit()) || withAncestors(y.commit()).contains(x.commit())) {
            return -7;
        }
        TreeMap<String, String> tree = new TreeMap<>(nodes.get(x.commit()).tree());
        for (Map.Entry<String, String> f : nodes.get(y.commit()).tree().entrySet()) {
            String there = tree.put(f.getKey(), f.getValue());
            if (there != null && !there.equals(f.getValue())) {
                return -6;
            }
        }
        if (clashes(tree)) {
            return -6;
        }
        return tell(h, a, new Node(List.of(x.commit(), y.commit()), tree, "", who, hour));
    }

    private int tell(int h, int a, Node node) {
        if (node.tree().size() > 16) {
            return -5;
        }
        try {
            int k = settle(node);
            refs.get(h).put(key(0, a), new Ref(k, -1));
            return k;
        } catch (Refused r) {
            return r.code;
        }
    }

    private static TreeMap<String, String> change(TreeMap<String, String> a, TreeMap<String, String> b) {
        TreeMap<String, String> c = new TreeMap<>();
        Set<String> paths = new TreeSet<>(a.keySet());
        paths.addAll(b.keySet());
        for (String p : paths) {
            if (!Objects.equals(a.get(p), b.get(p))) {
                c.put(p, b.getOrDefault(p, ""));
            }
        }
        return c;
    }

    private TreeMap<String, String> changeOf(int k) {
        return change(firstTree(nodes.get(k)), nodes.get(k).tree());
    }

    public int replay(int h, int a, int k) {
        if (!in(h, 0, 3) || !in(a, 0, 25) || !is(k)) {
            return -1;
        }
        Ref on = refs.get(h).get(key(0, a));
        if (on == null) {
            return -4;
        }
        TreeMap<String, String> base = nodes.get(on.commit()).tree();
        TreeMap<String, String> tree = new TreeMap<>(base);
        Node node = nodes.get(k);
        for (Map.Entry<String, String> c : changeOf(k).entrySet()) {
            String path = c.getKey();
            String now = base.getOrDefault(path, "");
            String ahead = firstTree(node).getOrDefault(path, "");
            if (!now.equals(ahead) && !now.equals(c.getValue())) {
                return -6;
            }
            if (c.getValue().isEmpty()) {
                tree.remove(path);
            } else {
                tree.put(path, c.getValue());
            }
        }
        if (clashes(tree)) {
            return -6;
        }
        if (tree.size() <= 16 && tree.equals(base)) {
            return -8;
        }
        return tell(h, a, new Node(List.of(on.commit()), tree, node.message(), node.who(), node.hour()));
    }

    public int commitIs(int k, int what) {
        if (!is(k)) {
            return -1;
        }
        Node n = nodes.get(k);
        switch (what) {
            case 0: return n.parents().size();
            case 1: return n.who();
            case 2: return n.hour();
            case 3: return n.tree().size();
            case 4: return n.message().length();
            case 5: return generation(k);
            case 6: return ancestors(k).size();
            case 7: return (int) nodes.stream().filter(x -> x.parents().contains(k)).count();
            case 8: return changeOf(k).size();
            case 10:
            case 11:
            case 12: return what - 10 < n.parents().size() ? n.parents().get(what - 10) : -2;
            default: return -1;
        }
    }

    private int generation(int k) {
        int[] g = new int[k + 1];
        for (int c = 0; c <= k; c++) {
            for (int p : nodes.get(c).parents()) {
                g[c] = Math.max(g[c], g[p] + 1);
            }
        }
        return g[k];
    }

    String spell(int k) {
        Node n = nodes.get(k);
        List<String> parents = new ArrayList<>();
        n.parents().forEach(p -> parents.add(p.toString()));
        List<String> files = new ArrayList<>();
        n.tree().forEach((p, c) -> files.add(p + "=" + c));
        return String.join(",", parents) + ":" + String.join(";", files) + ":" + n.message();
    }

    public int spelt(int k, int at) {
        if (!is(k) || !in(at, 0, 599)) {
            return -1;
        }
        String text = spell(k);
        return at < text.length() ? text.charAt(at) : -2;
    }

    private String wholePath(int n) throws Fault {
        Text t = new Text(takeTape(n));
        String path = t.path(6);
        if (!t.over()) {
            throw new Fault(1, t.at);
        }
        return path;
    }

    public int look(int k, int n, int what) {
        if (!is(k) || !in(n, 1, 11) || n > tape.length() || !in(what, 0, 3)) {
            return -1;
        }
        try {
            String path = wholePath(n);
            TreeMap<String, String> part = part(nodes.get(k).tree(), path);
            boolean file = part.containsKey(path);
            Set<String> entries = new TreeSet<>();
            boolean deep = false;
            for (String p : part.keySet()) {
                if (!file) {
                    String rest = p.substring(path.length() + 1);
                    entries.add(rest.substring(0, 1));
                    deep |= rest.length() > 1;
                }
            }
            switch (what) {
                case 0: return file ? 1 : part.isEmpty() ? 0 : 2;
                case 1: return part.size();
                case 2: return !file && !part.isEmpty() && !deep ? 1 : 0;
                default: return entries.size();
            }
        } catch (Fault f) {
            return f.code;
        }
    }

    public int touches(int h, int n) {
        if (!in(h, 0, 3) || !in(n, 1, 11) || n > tape.length()) {
            return -1;
        }
        try {
            String path = wholePath(n);
            int found = 0;
            for (int k : ofHistory(h)) {
                TreeMap<String, String> mine = part(nodes.get(k).tree(), path);
                boolean touched = true;
                for (int p : nodes.get(k).parents()) {
                    touched &= !part(nodes.get(p).tree(), path).equals(mine);
                }
                if (nodes.get(k).parents().isEmpty()) {
                    touched = !mine.isEmpty();
                }
                found += touched ? 1 : 0;
            }
            return found;
        } catch (Fault f) {
            return f.code;
        }
    }

    public int planIs(int p, int what) {
        if (!in(p, 0, 3) || !in(what, 0, 20)) {
            return -1;
        }
        Told t = plans[p];
        if (t == null) {
            return -2;
        }
        switch (what) {
            case 0: return t.from;
            case 1: return t.to;
            case 2: return t.keeps.size();
            case 3: return t.drops.size();
            case 4: return t.moves.size();
            case 5: return t.merges;
            case 6: return t.empty;
            case 7: return t.tags;
            case 8: return t.images.size();
            case 9: return Collections.frequency(t.fates.values(), 0);
            case 10: return Collections.frequency(t.fates.values(), 1);
            case 11: return Collections.frequency(t.fates.values(), 2);
            case 12: return Collections.frequency(t.images.values(), -1);
            case 13: return t.lines;
            case 14: return t.skips.stream().mapToInt(x -> 1 << x).sum();
            case 15: return t.since;
            case 16: return t.most;
            case 17: return t.swaps.size();
            case 18: return t.words.size();
            case 19: return t.grafts.size();
            default: return t.signs.size();
        }
    }

    public int image(int p, int k, int what) {
        if (!in(p, 0, 3) || !is(k) || !in(what, 0, 1)) {
            return -1;
        }
        Told t = plans[p];
        if (t == null) {
            return -3;
        }
        if (!t.images.containsKey(k)) {
            return -4;
        }
        return what == 1 ? t.fates.get(k) : t.images.get(k) < 0 ? -2 : t.images.get(k);
    }

    public int tried(int p, int k, int what) {
        if (!in(p, 0, 3) || !is(k) || !in(what, 0, 3)) {
            return -1;
        }
        if (plans[p] == null) {
            return -3;
        }
        Carried c = carry(plans[p], k);
        switch (what) {
            case 0: return c.tree.size();
            case 1: return c.taken;
            case 2: return c.lost;
            default:
                for (int j = 0; j < nodes.size(); j++) {
                    if (nodes.get(j).tree().equals(c.tree)) {
                        return j;
                    }
                }
                return -2;
        }
    }

    public long share(int p) {
        if (!in(p, 0, 3)) {
            return -1;
        }
        if (plans[p] == null) {
            return -3;
        }
        int mapped = planIs(p, 8);
        return Double.doubleToRawLongBits(mapped == 0 ? 0.0 : (double) planIs(p, 9) / mapped);
    }

    public int sound(int p, int what) {
        if (!in(p, 0, 3) || !in(what, 0, 5)) {
            return -1;
        }
        Told t = plans[p];
        if (t == null) {
            return -3;
        }
        TreeSet<Integer> mine = ofPlan(t);
        TreeSet<Integer> kept = new TreeSet<>(mine);
        kept.removeIf(k -> t.fates.getOrDefault(k, -1) != 0);
        if (what == 5) {
            mine.removeIf(t.images::containsKey);
            return mine.size();
        }
        int found = 0;
        Set<Integer> seen = new HashSet<>();
        for (int k : kept) {
            int image = t.images.get(k);
            if (what == 2 && !seen.add(image)) {
                found++;
            }
            if (what == 3) {
                found += carry(t, k).lost;
            }
            if (what == 4 && fore(t, k).size() > 1 && nodes.get(image).parents().size() < 2) {
                found++;
            }
            for (int j : kept) {
                boolean elder = elders(t, k).contains(j);
                boolean above = ancestors(image).contains(t.images.get(j));
                if (what == 0 && elder && !above) {
                    found++;
                }
                boolean none = !elder && !elders(t, j).contains(k);
                if (what == 1 && j < k && none && (above || ancestors(t.images.get(j)).contains(image))) {
                    found++;
                }
            }
        }
        return found;
    }

    public int refIs(int h, int i, int what) {
        if (!in(h, 0, 3) || !in(i, 0, 7) || !in(what, 0, 3)) {
            return -1;
        }
        if (i >= refs.get(h).size()) {
            return -4;
        }
        String key = new ArrayList<>(refs.get(h).keySet()).get(i);
        Ref r = refs.get(h).get(key);
        switch (what) {
            case 0: return key.startsWith("b") ? 0 : 1;
            case 1: return key.charAt(1) - 'a';
            case 2: return r.commit();
            default: return r.laid() < 0 ? -2 : r.laid();
        }
    }

    public int historyIs(int h, int what) {
        if (!in(h, 0, 3) || !in(what, 0, 6)) {
            return -1;
        }
        TreeSet<Integer> mine = ofHistory(h);
        Set<Integer> parents = new HashSet<>();
        Set<Object> trees = new HashSet<>();
        int generation = -2;
        for (int k : mine) {
            parents.addAll(nodes.get(k).parents());
            trees.add(nodes.get(k).tree());
            generation = Math.max(generation, generation(k));
        }
        switch (what) {
            case 0: return refs.get(h).size();
            case 1: return mine.size();
            case 2: return (int) mine.stream().filter(k -> nodes.get(k).parents().isEmpty()).count();
            case 3: return (int) mine.stream().filter(k -> nodes.get(k).parents().size() > 1).count();
            case 4: return (int) mine.stream().filter(k -> !parents.contains(k)).count();
            case 5: return generation;
            default: return trees.size();
        }
    }

    public int listing(int h, int i) {
        if (!in(h, 0, 3) || !in(i, 0, 119)) {
            return -1;
        }
        TreeSet<Integer> left = ofHistory(h);
        List<Integer> order = new ArrayList<>();
        while (!left.isEmpty()) {
            List<Integer> ready = new ArrayList<>(left);
            ready.removeIf(k -> left.stream().anyMatch(c -> nodes.get(c).parents().contains(k)));
            ready.sort((x, y) -> nodes.get(x).hour() != nodes.get(y).hour()
                ? nodes.get(y).hour() - nodes.get(x).hour() : y - x);
            order.add(ready.get(0));
            left.remove(ready.get(0));
        }
        return i < order.size() ? order.get(i) : -4;
    }

    public int ancestor(int j, int k) {
        return !is(j) || !is(k) ? -1 : ancestors(k).contains(j) ? 1 : 0;
    }

    public int base(int j, int k, int what) {
        if (!is(j) || !is(k) || what != 0 && !in(what, 10, 129)) {
            return -1;
        }
        TreeSet<Integer> both = withAncestors(j);
        both.retainAll(withAncestors(k));
        List<Integer> bases = new ArrayList<>(both);
        bases.removeIf(b -> both.stream().anyMatch(o -> ancestors(o).contains(b)));
        return what == 0 ? bases.size() : what - 10 < bases.size() ? bases.get(what - 10) : -4;
    }

    public int way(int j, int k) {
        if (!is(j) || !is(k)) {
            return -1;
        }
        Set<Integer> reached = new HashSet<>(Set.of(k));
        for (int steps = 0; steps < 130; steps++) {
            if (reached.contains(j)) {
                return steps;
            }
            Set<Integer> next = new HashSet<>();
            reached.forEach(c -> next.addAll(nodes.get(c).parents()));
            reached = next;
        }
        return -2;
    }

    public int halving(int good, int bad, int what) {
        if (!is(good) || !is(bad) || !in(what, 0, 2)) {
            return -1;
        }
        TreeSet<Integer> between = withAncestors(bad);
        between.removeAll(withAncestors(good));
        int best = -2;
        int bestWeight = -2;
        for (int k : between) {
            TreeSet<Integer> both = withAncestors(k);
            both.retainAll(between);
            int weight = both.size();
            int all = between.size();
            if (best < 0 || Math.min(weight, all - weight) > Math.min(bestWeight, all - bestWeight)) {
                best = k;
                bestWeight = weight;
            }
        }
        return what == 0 ? between.size() : what == 1 ? best : bestWeight;
    }

    // ---- likeness ----

    static float like(String a, String b) {
        return 2f * common(a, b) / (a.length() + b.length());
    }

    private static int common(String a, String b) {
        if (a.isEmpty() || b.isEmpty()) {
            return 0;
        }
        String x = a.substring(1);
        String y = b.substring(1);
        return a.charAt(0) == b.charAt(0) ? 1 + common(x, y) : Math.max(common(x, b), common(a, y));
    }

    record Pair(int from, int to, float like) { }

    private List<Pair> pairs(TreeMap<String, String> a, TreeMap<String, String> b) {
        List<String> from = new ArrayList<>(a.keySet());
        List<String> to = new ArrayList<>(b.keySet());
        List<Pair> all = new ArrayList<>();
        for (String x : from) {
            for (String y : to) {
                if (!b.containsKey(x) && !a.containsKey(y) && like(a.get(x), b.get(y)) >= 0.6f) {
                    all.add(new Pair(from.indexOf(x), to.indexOf(y), like(a.get(x), b.get(y))));
                }
            }
        }
        all.sort((p, q) -> Float.compare(q.like(), p.like()));
        List<Pair> chosen = new ArrayList<>();
        for (Pair p : all) {
            if (chosen.stream().noneMatch(c -> c.from() == p.from() || c.to() == p.to())) {
                chosen.add(p);
            }
        }
        return chosen;
    }

    public int diff(int j, int k, int what) {
        if (!is(j) || !is(k) || !in(what, 0, 3)) {
            return -1;
        }
        TreeMap<String, String> a = nodes.get(j).tree();
        TreeMap<String, String> b = nodes.get(k).tree();
        switch (what) {
            case 0: return (int) a.keySet().stream().filter(p -> !b.containsKey(p)).count();
            case 1: return (int) b.keySet().stream().filter(p -> !a.containsKey(p)).count();
            case 2: return (int) a.keySet().stream().filter(p -> b.containsKey(p) && !b.get(p).equals(a.get(p))).count();
            default: return pairs(a, b).size();
        }
    }

    public int renamed(int j, int k, int i, int what) {
        if (!is(j) || !is(k) || !in(i, 0, 15) || !in(what, 0, 3)) {
            return -1;
        }
        List<Pair> pairs = pairs(nodes.get(j).tree(), nodes.get(k).tree());
        if (i >= pairs.size()) {
            return -4;
        }
        Pair p = pairs.get(i);
        return what == 0 ? p.from() : what == 1 ? p.to() : what == 2 ? Float.floatToRawIntBits(p.like())
            : (int) (p.like() * 100f);
    }

    public int likeness(int j, int i, int k, int m, int what) {
        if (!is(j) || !is(k) || !in(i, 0, 15) || !in(m, 0, 15) || !in(what, 0, 1)) {
            return -1;
        }
        List<String> a = new ArrayList<>(nodes.get(j).tree().values());
        List<String> b = new ArrayList<>(nodes.get(k).tree().values());
        if (i >= a.size() || m >= b.size()) {
            return -4;
        }
        float f = like(a.get(i), b.get(m));
        return what == 0 ? Float.floatToRawIntBits(f) : (int) (100f * f);
    }

    public int origin(int k, int i, int what) {
        if (!is(k) || !in(i, 0, 15) || !in(what, 0, 4)) {
            return -1;
        }
        if (i >= nodes.get(k).tree().size()) {
            return -4;
        }
        int unlike = 0;
        int renames = 0;
        float worn = 1f;
        String path = new ArrayList<>(nodes.get(k).tree().keySet()).get(i);
        while (true) {
            Node n = nodes.get(k);
            int next = -1;
            String there = path;
            for (int p : n.parents()) {
                if (next < 0 && nodes.get(p).tree().containsKey(path)) {
                    next = p;
                }
            }
            if (next < 0) {
                int number = n.tree().headMap(path).size();
                for (int p : n.parents()) {
                    for (Pair pair : pairs(nodes.get(p).tree(), n.tree())) {
                        if (next < 0 && pair.to() == number) {
                            next = p;
                            there = new ArrayList<>(nodes.get(p).tree().keySet()).get(pair.from());
                        }
                    }
                }
                renames += next < 0 ? 0 : 1;
            }
            if (next < 0) {
                break;
            }
            String now = n.tree().get(path);
            String before = nodes.get(next).tree().get(there);
            unlike += now.equals(before) ? 0 : 1;
            worn *= like(now, before);
            k = next;
            path = there;
        }
        return what == 0 ? k : what == 1 ? nodes.get(k).tree().headMap(path).size() : what == 2 ? unlike
            : what == 3 ? renames : Float.floatToRawIntBits(worn);
    }

    public int apart(int h, int g, int what) {
        if (!in(h, 0, 3) || !in(g, 0, 3) || !in(what, 0, 3)) {
            return -1;
        }
        Set<Integer> a = ofHistory(h);
        Set<Integer> b = ofHistory(g);
        if (what == 3) {
            Set<String> keys = new HashSet<>(refs.get(h).keySet());
            keys.addAll(refs.get(g).keySet());
            keys.removeIf(x -> refs.get(h).containsKey(x) && refs.get(g).containsKey(x)
                && refs.get(h).get(x).commit() == refs.get(g).get(x).commit());
            return keys.size();
        }
        int found = 0;
        for (int k = 0; k < nodes.size(); k++) {
            boolean x = a.contains(k);
            boolean y = b.contains(k);
            found += what == 0 && x && !y || what == 1 && x && y || what == 2 && y && !x ? 1 : 0;
        }
        return found;
    }

    public int picked(int h, int k) {
        if (!in(h, 0, 3) || !is(k)) {
            return -1;
        }
        for (int j : ofHistory(h)) {
            if (j != k && changeOf(j).equals(changeOf(k))) {
                return j;
            }
        }
        return -2;
    }

    public int line(int k, int i) {
        if (!is(k) || !in(i, 0, 119)) {
            return -1;
        }
        List<Integer> line = new ArrayList<>(List.of(k));
        while (!nodes.get(line.get(line.size() - 1)).parents().isEmpty()) {
            line.add(nodes.get(line.get(line.size() - 1)).parents().get(0));
        }
        return i < line.size() ? line.get(i) : -4;
    }

    public int keep() {
        savedNodes = new ArrayList<>(nodes);
        savedRefs = twins(refs);
        savedPlans = twins(plans);
        return nodes.size();
    }

    public boolean undo() {
        if (savedNodes == null) {
            return false;
        }
        nodes = new ArrayList<>(savedNodes);
        refs = twins(savedRefs);
        plans = twins(savedPlans);
        return true;
    }

    private static List<TreeMap<String, Ref>> twins(List<TreeMap<String, Ref>> all) {
        List<TreeMap<String, Ref>> twins = new ArrayList<>();
        all.forEach(m -> twins.add(new TreeMap<>(m)));
        return twins;
    }

    private static Told[] twins(Told[] all) {
        Told[] twins = new Told[all.length];
        for (int i = 0; i < all.length; i++) {
            twins[i] = all[i] == null ? null : all[i].twin();
        }
        return twins;
    }

    public int check(int n) {
        if (!in(n, 0, 120) || n > tape.length()) {
            return -2;
        }
        String told = takeTape(n);
        for (int k = 0; k < n; k++) {
            if (told.charAt(k) != (is(k) ? nodes.get(k).tree().size() : 255)) {
                return k;
            }
        }
        return -1;
    }

    public int count(int what) {
        Set<Object> trees = new HashSet<>();
        Set<String> contents = new HashSet<>();
        for (Node n : nodes) {
            trees.add(n.tree());
            contents.addAll(n.tree().values());
        }
        switch (what) {
            case 0: return nodes.size();
            case 1: return tape.length();
            case 2: return trees.size();
            case 3: return contents.size();
            case 4:
                int told = 0;
                for (Told t : plans) {
                    told += t == null ? 0 : 1;
                }
                return told;
            case 5: return refs.stream().mapToInt(Map::size).sum();
            default: return -1;
        }
    }

    // ---- what RandomRuns asks to make sensible calls ----

    int commits() {
        return nodes.size();
    }

    List<String> paths(int k) {
        return new ArrayList<>(nodes.get(k).tree().keySet());
    }
}
