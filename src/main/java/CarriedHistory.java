import java.util.Arrays;

/**
 * Histories of a store rewritten by plans.
 *
 * The words in comments that stand in capitals, or that name a promise, are those of ../shared/DOC.md.
 */
public final class CarriedHistory {
    public static final int NONE = -1;

    private static final int MOST_COMMITS = 120;
    private static final int MOST_PARENTS = 3;
    private static final int MOST_FILES = 16;
    /** What two TREES together can have: joins and replays are looked at before their FILES are counted. */
    private static final int MOST_FILES_OF_TWO = 32;
    private static final int MOST_NAMES = 6;
    private static final int MOST_NAMES_TOLD = 4;
    private static final int MOST_DIGITS = 3;
    private static final int MOST_CONTENT = 6;
    /** A CONTENT is held as a number with a 1 ahead of its digits, so that 01 is not 1. */
    private static final int AHEAD_OF_CONTENT = 1;
    private static final int MOST_MESSAGE = 24;
    private static final int MOST_REFS = 8;
    private static final int MOST_TAPE = 260;
    private static final int MOST_COMMIT_TEXT = 160;
    private static final int MOST_PLAN_TEXT = 240;
    private static final int MOST_LOOK_TEXT = 11;
    private static final int MOST_SPELT = 600;
    private static final int HISTORIES = 4;
    private static final int PLANS = 4;
    private static final int LETTERS = 26;
    private static final int BRANCH = 0;
    private static final int TAG = 1;

    /** How a COMMIT that is MAPPED was rewritten. */
    private static final int KEPT = 0;
    private static final int EMPTY = 1;
    private static final int SKIPPED = 2;

    private static final int TOO_MANY_COMMITS = -3;
    private static final int TOO_MANY_OTHERS = -5;

    /** More slots than all FILES of all COMMITS, so that a free one is always found. */
    private static final int SLOTS = 4096;

    private final Tape tape = new Tape();
    private final Rewriter rewriter = new Rewriter();
    private final Commits commits = rewriter.commits;
    private final Draft draft = new Draft();
    private final Refs[] histories = new Refs[HISTORIES];
    private final Plan[] plans = new Plan[PLANS];
    private final PlanText planText = new PlanText();
    private final Refs laidRefs = new Refs();
    private final Change change = new Change();
    private final Change otherChange = new Change();
    private final Marks marks = new Marks(2);
    private final int[] row = new int[MOST_COMMITS];
    private final int[] slots = new int[SLOTS];
    private final StringBuilder text = new StringBuilder();
    private final Refs[] savedHistories = new Refs[HISTORIES];
    private final Plan[] savedPlans = new Plan[PLANS];
    private int savedCommits = NONE;

    public CarriedHistory() {
        for (int h = 0; h < HISTORIES; h++) {
            histories[h] = new Refs();
            savedHistories[h] = new Refs();
        }
        for (int p = 0; p < PLANS; p++) {
            plans[p] = new Plan();
            savedPlans[p] = new Plan();
        }
    }

    // ---- the tape and what is told by it ----

    public int feed(int a, int b, int c, int d, int e) {
        if (tape.length + 20 > MOST_TAPE) {
            return NONE;
        }
        tape.add(a);
        tape.add(b);
        tape.add(c);
        tape.add(d);
        tape.add(e);
        return tape.length;
    }

    public int commit(int n, int who, int hour) {
        if (n < 1 || n > MOST_COMMIT_TEXT || n > tape.length || !isWho(who) || !isHour(hour)) {
            return NONE;
        }
        int fault = draft.read(tape, n, commits);
        tape.length = 0;
        if (fault != 0) {
            return fault;
        }
        draft.who = who;
        draft.hour = hour;
        return commits.settle(draft);
    }

    public int plan(int p, int n) {
        if (!isPlan(p) || n < 1 || n > MOST_PLAN_TEXT || n > tape.length) {
            return NONE;
        }
        int fault = planText.read(tape, n, commits.count);
        tape.length = 0;
        if (fault != 0) {
            return fault;
        }
        plans[p].copy(planText.told);
        return plans[p].lines;
    }

    public int check(int n) {
        if (n < 0 || n > MOST_COMMITS || n > tape.length) {
            return -2;
        }
        tape.length = 0;
        for (int k = 0; k < n; k++) {
            int due = commits.has(k) ? commits.tree(k).count : 255;
            if (tape.at(k) != due) {
                return k;
            }
        }
        return NONE;
    }

    // ---- REFS, and what moves them ----

    public int ref(int h, int kind, int letter, int k) {
        if (!isHistory(h) || kind < BRANCH || kind > TAG || !isLetter(letter) || k < -1 || k >= commits.count) {
            return NONE;
        }
        Refs refs = histories[h];
        boolean there = refs.find(kind, letter) >= 0;
        if (k < 0) {
            if (!there) {
                return -4;
            }
            refs.remove(kind, letter);
            return refs.count;
        }
        if (!there && refs.count >= MOST_REFS) {
            return TOO_MANY_OTHERS;
        }
        refs.lay(kind, letter, k, NONE);
        return refs.count;
    }

    public int run(int p) {
        return isPlan(p) ? carry(p, false) : NONE;
    }

    public int again(int p) {
        if (!isPlan(p)) {
            return NONE;
        }
        int before = commits.count;
        int answer = carry(p, true);
        return answer < 0 ? answer : commits.count - before;
    }

    /** Nothing of a plan or a HISTORY is written before all is known to fit; new COMMITS are cut off again else. */
    private int carry(int p, boolean anew) {
        Plan plan = plans[p];
        if (!plan.isTold) {
            return -2;
        }
        int before = commits.count;
        int rewritten = 0;
        rewriter.begin(plan, histories[plan.from], anew);
        for (int k = 0; k < before; k++) {
            if (!rewriter.isOfPlan(k) || rewriter.fate[k] >= 0) {
                continue;
            }
            if (!rewriter.rewrite(plan, k)) {
                commits.count = before;
                return TOO_MANY_COMMITS;
            }
            rewritten++;
        }
        layRefs(plan, p);
        if (laidRefs.count > MOST_REFS) {
            commits.count = before;
            return TOO_MANY_OTHERS;
        }
        plan.takeMap(rewriter.image, rewriter.fate);
        histories[plan.to].copy(laidRefs);
        return rewritten;
    }

    private void layRefs(Plan plan, int p) {
        Refs from = histories[plan.from];
        laidRefs.copy(histories[plan.to]);
        laidRefs.removeLaidBy(p);
        for (int i = 0; i < from.count; i++) {
            int k = from.at[i];
            int image = rewriter.image[k];
            boolean goes = from.kind[i] == BRANCH || plan.tags == 2 || plan.tags == 1 && rewriter.fate[k] == KEPT;
            if (goes && image >= 0) {
                laidRefs.lay(from.kind[i], from.letter[i], image, p);
            }
        }
    }

    public int join(int h, int a, int b, int who, int hour) {
        if (!isHistory(h) || !isLetter(a) || !isLetter(b) || a == b || !isWho(who) || !isHour(hour)) {
            return NONE;
        }
        Refs refs = histories[h];
        int j = refs.branch(a);
        int k = refs.branch(b);
        if (j < 0 || k < 0) {
            return -4;
        }
        if (j == k || commits.isAbove(j, k) || commits.isAbove(k, j)) {
            return -7;
        }
        draft.begin(who, hour);
        draft.addParent(j);
        draft.addParent(k);
        draft.tree.copy(commits.tree(j));
        if (!draft.tree.takeAll(commits.tree(k)) || draft.tree.clashes()) {
            return -6;
        }
        if (draft.tree.count > MOST_FILES) {
            return TOO_MANY_OTHERS;
        }
        return settleOn(refs, a);
    }

    public int replay(int h, int a, int k) {
        if (!isHistory(h) || !isLetter(a) || !commits.has(k)) {
            return NONE;
        }
        Refs refs = histories[h];
        int on = refs.branch(a);
        if (on < 0) {
            return -4;
        }
        change.measure(commits.firstTree(k), commits.tree(k));
        draft.begin(commits.who[k], commits.hour[k]);
        draft.addParent(on);
        draft.takeMessage(commits, k);
        draft.tree.copy(commits.tree(on));
        if (!change.fits(draft.tree)) {
            return -6;
        }
        change.apply(draft.tree);
        if (draft.tree.clashes()) {
            return -6;
        }
        if (draft.tree.count > MOST_FILES) {
            return TOO_MANY_OTHERS;
        }
        return draft.tree.isLike(commits.tree(on)) ? -8 : settleOn(refs, a);
    }

    private int settleOn(Refs refs, int branch) {
        int k = commits.settle(draft);
        if (k >= 0) {
            refs.lay(BRANCH, branch, k, NONE);
        }
        return k;
    }

    // ---- what a COMMIT is ----

    public int commitIs(int k, int what) {
        if (!commits.has(k)) {
            return NONE;
        }
        switch (what) {
            case 0: return commits.parentCount[k];
            case 1: return commits.who[k];
            case 2: return commits.hour[k];
            case 3: return commits.tree(k).count;
            case 4: return commits.messageLength[k];
            case 5: return commits.generation[k];
            case 6: return commits.ancestors.size(k);
            case 7: return commits.childrenOf(k);
            case 8:
                change.measure(commits.firstTree(k), commits.tree(k));
                return change.count;
            case 10:
            case 11:
            case 12:
                return what - 10 < commits.parentCount[k] ? commits.parent(k, what - 10) : -2;
            default: return NONE;
        }
    }

    public int spelt(int k, int at) {
        if (!commits.has(k) || at < 0 || at >= MOST_SPELT) {
            return NONE;
        }
        text.setLength(0);
        for (int i = 0; i < commits.parentCount[k]; i++) {
            if (i > 0) {
                text.append(',');
            }
            text.append(commits.parent(k, i));
        }
        text.append(':');
        commits.tree(k).spell(text);
        text.append(':');
        for (int i = 0; i < commits.messageLength[k]; i++) {
            text.append((char) commits.messageByte(k, i));
        }
        return at < text.length() ? text.charAt(at) : -2;
    }

    public int look(int k, int n, int what) {
        if (!commits.has(k) || what < 0 || what > 3 || n < 1 || n > MOST_LOOK_TEXT || n > tape.length) {
            return NONE;
        }
        int path = readWholePath(n);
        if (tape.fault != 0) {
            return tape.fault;
        }
        Tree tree = commits.tree(k);
        switch (what) {
            case 0: return tree.find(path) >= 0 ? 1 : tree.hasFolder(path) ? 2 : 0;
            case 1: return tree.filesAt(path);
            case 2: return tree.hasFolder(path) && tree.hasFilesAlone(path) ? 1 : 0;
            default: return tree.entriesIn(path);
        }
    }

    public int touches(int h, int n) {
        if (!isHistory(h) || n < 1 || n > MOST_LOOK_TEXT || n > tape.length) {
            return NONE;
        }
        int path = readWholePath(n);
        if (tape.fault != 0) {
            return tape.fault;
        }
        commits.markHistory(histories[h], marks, 0);
        int found = 0;
        for (int k = 0; k < commits.count; k++) {
            if (marks.has(0, k) && isTouched(k, path)) {
                found++;
            }
        }
        return found;
    }

    /** The PATH that all n bytes tell; the tape is empty then, and knows the fault. */
    private int readWholePath(int n) {
        tape.begin(n);
        int path = tape.path(MOST_NAMES);
        if (tape.fault == 0 && !tape.isAtEnd()) {
            tape.fail(1, tape.place);
        }
        tape.length = 0;
        return path;
    }

    private boolean isTouched(int k, int path) {
        if (commits.parentCount[k] == 0) {
            return commits.tree(k).filesAt(path) > 0;
        }
        for (int i = 0; i < commits.parentCount[k]; i++) {
            if (commits.tree(k).isLikeAt(commits.tree(commits.parent(k, i)), path)) {
                return false;
            }
        }
        return true;
    }

    // ---- what a PLAN is ----

    public int planIs(int p, int what) {
        if (!isPlan(p) || what < 0 || what > 20) {
            return NONE;
        }
        Plan plan = plans[p];
        if (!plan.isTold) {
            return -2;
        }
        switch (what) {
            case 0: return plan.from;
            case 1: return plan.to;
            case 2: return plan.keeps.count;
            case 3: return plan.drops.count;
            case 4: return plan.moves.count;
            case 5: return plan.merges;
            case 6: return plan.empty;
            case 7: return plan.tags;
            case 13: return plan.lines;
            case 14: return plan.skips;
            case 15: return plan.since;
            case 16: return plan.most;
            case 17: return plan.swaps.count;
            case 18: return plan.words.count;
            case 19: return plan.grafts.count;
            case 20: return plan.signs.count;
            default: return mapIs(plan, what);
        }
    }

    private int mapIs(Plan plan, int what) {
        int found = 0;
        for (int k = 0; k < commits.count; k++) {
            if (!plan.isMapped(k)) {
                continue;
            }
            int fate = plan.fate[k];
            boolean counts = what == 8 || what == 9 && fate == KEPT || what == 10 && fate == EMPTY
                || what == 11 && fate == SKIPPED || what == 12 && plan.image[k] < 0;
            if (counts) {
                found++;
            }
        }
        return found;
    }

    public int image(int p, int k, int what) {
        if (!isPlan(p) || !commits.has(k) || what < 0 || what > 1) {
            return NONE;
        }
        Plan plan = plans[p];
        if (!plan.isTold) {
            return -3;
        }
        if (!plan.isMapped(k)) {
            return -4;
        }
        if (what == 1) {
            return plan.fate[k];
        }
        return plan.image[k] < 0 ? -2 : plan.image[k];
    }

    public int tried(int p, int k, int what) {
        if (!isPlan(p) || !commits.has(k) || what < 0 || what > 3) {
            return NONE;
        }
        if (!plans[p].isTold) {
            return -3;
        }
        rewriter.carryTree(plans[p], commits.tree(k));
        switch (what) {
            case 0: return rewriter.tree().count;
            case 1: return rewriter.taken;
            case 2: return rewriter.lost;
            default:
                int lowest = commits.lowestWith(rewriter.tree());
                return lowest < 0 ? -2 : lowest;
        }
    }

    public long share(int p) {
        if (!isPlan(p)) {
            return NONE;
        }
        if (!plans[p].isTold) {
            return -3;
        }
        int mapped = mapIs(plans[p], 8);
        return mapped == 0 ? 0L : doubleBits((double) mapIs(plans[p], 9) / (double) mapped);
    }

    public int sound(int p, int what) {
        if (!isPlan(p) || what < 0 || what > 5) {
            return NONE;
        }
        Plan plan = plans[p];
        if (!plan.isTold) {
            return -3;
        }
        rewriter.markPlan(plan, histories[plan.from]);
        int found = 0;
        for (int k = 0; k < commits.count; k++) {
            if (!rewriter.isOfPlan(k)) {
                continue;
            }
            if (what == 5) {
                found += plan.isMapped(k) ? 0 : 1;
            } else if (plan.isKept(k)) {
                found += flawsOf(plan, k, what);
            }
        }
        return found;
    }

    private int flawsOf(Plan plan, int k, int what) {
        if (what == 3) {
            rewriter.carryTree(plan, commits.tree(k));
            return rewriter.lost;
        }
        if (what == 4) {
            return plan.foreCount(commits, k) >= 2 && commits.parentCount[plan.image[k]] <= 1 ? 1 : 0;
        }
        int found = 0;
        for (int j = 0; j < k; j++) {
            if (rewriter.isOfPlan(j) && plan.isKept(j) && isFlawed(plan, j, k, what)) {
                found++;
            }
        }
        return what == 2 && found > 1 ? 1 : found;
    }

    /** Whether the lower COMMIT j and COMMIT k are a BROKEN pair (0), a TIED one (1), or of one IMAGE (2). */
    private boolean isFlawed(Plan plan, int j, int k, int what) {
        int x = plan.image[j];
        int y = plan.image[k];
        if (what == 2) {
            return x == y;
        }
        if (rewriter.elders.has(k, j)) {
            return what == 0 && !commits.isAbove(x, y);
        }
        return what == 1 && (commits.isAbove(x, y) || commits.isAbove(y, x));
    }

    // ---- what a HISTORY is ----

    public int refIs(int h, int i, int what) {
        if (!isHistory(h) || i < 0 || i >= MOST_REFS || what < 0 || what > 3) {
            return NONE;
        }
        Refs refs = histories[h];
        if (i >= refs.count) {
            return -4;
        }
        switch (what) {
            case 0: return refs.kind[i];
            case 1: return refs.letter[i];
            case 2: return refs.at[i];
            default: return refs.laidBy[i] < 0 ? -2 : refs.laidBy[i];
        }
    }

    public int historyIs(int h, int what) {
        if (!isHistory(h) || what < 0 || what > 6) {
            return NONE;
        }
        if (what == 0) {
            return histories[h].count;
        }
        commits.markHistory(histories[h], marks, 0);
        switch (what) {
            case 1: return marks.size(0);
            case 4: return childless();
            case 5: return greatestGeneration();
            case 6: return unlikeTrees();
            default: return withParents(what == 3);
        }
    }

    private int withParents(boolean many) {
        int found = 0;
        for (int k = 0; k < commits.count; k++) {
            int parents = commits.parentCount[k];
            if (marks.has(0, k) && (many ? parents >= 2 : parents == 0)) {
                found++;
            }
        }
        return found;
    }

    private int childless() {
        marks.clear(1);
        for (int k = 0; k < commits.count; k++) {
            for (int i = 0; marks.has(0, k) && i < commits.parentCount[k]; i++) {
                marks.put(1, commits.parent(k, i));
            }
        }
        return marks.size(0) - marks.sizeInBoth(0, marks, 1);
    }

    private int greatestGeneration() {
        int greatest = -2;
        for (int k = 0; k < commits.count; k++) {
            if (marks.has(0, k)) {
                greatest = Math.max(greatest, commits.generation[k]);
            }
        }
        return greatest;
    }

    private int unlikeTrees() {
        marks.clear(1);
        for (int k = 0; k < commits.count; k++) {
            if (marks.has(0, k)) {
                marks.put(1, commits.treeOf[k]);
            }
        }
        return marks.size(1);
    }

    public int listing(int h, int i) {
        if (!isHistory(h) || i < 0 || i >= MOST_COMMITS) {
            return NONE;
        }
        commits.markHistory(histories[h], marks, 0);
        if (i >= marks.size(0)) {
            return -4;
        }
        countChildren();
        int next = NONE;
        for (int step = 0; step <= i; step++) {
            next = nextListed();
            if (next < 0) {
                return -4;
            }
            marks.cut(0, next);
            for (int d = 0; d < commits.parentCount[next]; d++) {
                row[commits.parent(next, d)]--;
            }
        }
        return next;
    }

    /** For each COMMIT how many of its CHILDREN stand in the set: those that LISTING has not told yet. */
    private void countChildren() {
        Arrays.fill(row, 0);
        for (int k = 0; k < commits.count; k++) {
            for (int d = 0; marks.has(0, k) && d < commits.parentCount[k]; d++) {
                row[commits.parent(k, d)]++;
            }
        }
    }

    private int nextListed() {
        int best = NONE;
        for (int k = 0; k < commits.count; k++) {
            boolean ready = marks.has(0, k) && row[k] == 0;
            if (ready && (best < 0 || commits.hour[k] >= commits.hour[best])) {
                best = k;
            }
        }
        return best;
    }

    public int apart(int h, int g, int what) {
        if (!isHistory(h) || !isHistory(g) || what < 0 || what > 3) {
            return NONE;
        }
        if (what == 3) {
            return histories[h].missesOf(histories[g]) + histories[g].missesOf(histories[h])
                - histories[h].movesOf(histories[g]);
        }
        commits.markHistory(histories[h], marks, 0);
        commits.markHistory(histories[g], marks, 1);
        int both = marks.sizeInBoth(0, marks, 1);
        return what == 1 ? both : marks.size(what == 0 ? 0 : 1) - both;
    }

    public int picked(int h, int k) {
        if (!isHistory(h) || !commits.has(k)) {
            return NONE;
        }
        commits.markHistory(histories[h], marks, 0);
        change.measure(commits.firstTree(k), commits.tree(k));
        for (int j = 0; j < commits.count; j++) {
            if (j == k || !marks.has(0, j)) {
                continue;
            }
            otherChange.measure(commits.firstTree(j), commits.tree(j));
            if (change.isLike(otherChange)) {
                return j;
            }
        }
        return -2;
    }

    // ---- how COMMITS stand to one another ----

    public int ancestor(int j, int k) {
        if (!commits.has(j) || !commits.has(k)) {
            return NONE;
        }
        return commits.isAbove(j, k) ? 1 : 0;
    }

    public int base(int j, int k, int what) {
        boolean asksOne = what >= 10 && what < 10 + MOST_COMMITS;
        if (!commits.has(j) || !commits.has(k) || what != 0 && !asksOne) {
            return NONE;
        }
        markBases(j, k);
        if (what == 0) {
            return marks.size(0);
        }
        int base = marks.nth(0, what - 10);
        return base < 0 ? -4 : base;
    }

    private void markBases(int j, int k) {
        commits.markWithAncestors(j, marks, 0);
        commits.markWithAncestors(k, marks, 1);
        marks.onlyIn(0, marks, 1);
        marks.clear(1);
        for (int c = 0; c < commits.count; c++) {
            if (marks.has(0, c)) {
                marks.putAll(1, commits.ancestors, c);
            }
        }
        marks.cutAll(0, marks, 1);
    }

    public int way(int j, int k) {
        if (!commits.has(j) || !commits.has(k)) {
            return NONE;
        }
        Arrays.fill(row, NONE);
        row[k] = 0;
        // PARENTS have lower numbers: when a COMMIT is come to, all ways to it are known
        for (int c = k; c > j; c--) {
            for (int i = 0; row[c] >= 0 && i < commits.parentCount[c]; i++) {
                int parent = commits.parent(c, i);
                if (row[parent] < 0 || row[parent] > row[c] + 1) {
                    row[parent] = row[c] + 1;
                }
            }
        }
        return row[j] < 0 ? -2 : row[j];
    }

    public int halving(int good, int bad, int what) {
        if (!commits.has(good) || !commits.has(bad) || what < 0 || what > 2) {
            return NONE;
        }
        commits.markWithAncestors(bad, marks, 0);
        commits.markWithAncestors(good, marks, 1);
        marks.cutAll(0, marks, 1);
        int all = marks.size(0);
        if (what == 0) {
            return all;
        }
        int best = -2;
        int bestWeight = -2;
        int bestLesser = NONE;
        for (int k = 0; k < commits.count; k++) {
            if (!marks.has(0, k)) {
                continue;
            }
            int weight = marks.sizeInBoth(0, commits.ancestors, k) + 1;
            int lesser = Math.min(weight, all - weight);
            if (lesser > bestLesser) {
                best = k;
                bestWeight = weight;
                bestLesser = lesser;
            }
        }
        return what == 1 ? best : bestWeight;
    }

    public int line(int k, int i) {
        if (!commits.has(k) || i < 0 || i >= MOST_COMMITS) {
            return NONE;
        }
        int at = k;
        for (int step = 0; step < i; step++) {
            if (commits.parentCount[at] == 0) {
                return -4;
            }
            at = commits.parent(at, 0);
        }
        return at;
    }

    // ---- how TREES and FILES stand to one another ----

    public int diff(int j, int k, int what) {
        if (!commits.has(j) || !commits.has(k) || what < 0 || what > 3) {
            return NONE;
        }
        change.measure(commits.tree(j), commits.tree(k));
        if (what == 3) {
            change.pairUp();
            return change.pairs;
        }
        return change.countOf(what);
    }

    public int renamed(int j, int k, int i, int what) {
        if (!commits.has(j) || !commits.has(k) || i < 0 || i >= MOST_FILES || what < 0 || what > 3) {
            return NONE;
        }
        change.measure(commits.tree(j), commits.tree(k));
        change.pairUp();
        if (i >= change.pairs) {
            return -4;
        }
        switch (what) {
            case 0: return change.pairFrom[i];
            case 1: return change.pairTo[i];
            case 2: return floatBits(change.pairLikeness[i]);
            default: return hundredths(change.pairLikeness[i]);
        }
    }

    public int likeness(int j, int i, int k, int m, int what) {
        if (!commits.has(j) || !commits.has(k) || !isFile(i) || !isFile(m) || what < 0 || what > 1) {
            return NONE;
        }
        Tree from = commits.tree(j);
        Tree to = commits.tree(k);
        if (i >= from.count || m >= to.count) {
            return -4;
        }
        float alike = change.alike(from.content[i], to.content[m]);
        return what == 0 ? floatBits(alike) : hundredths(alike);
    }

    public int origin(int k, int i, int what) {
        if (!commits.has(k) || !isFile(i) || what < 0 || what > 4) {
            return NONE;
        }
        if (i >= commits.tree(k).count) {
            return -4;
        }
        int at = k;
        int file = i;
        int unlike = 0;
        int renames = 0;
        float worn = 1f;
        for (int step = 0; step < MOST_COMMITS; step++) {
            int parent = parentWithFile(at, commits.tree(at).path[file]);
            boolean isRename = parent < 0;
            parent = isRename ? parentRenamed(at, file) : parent;
            if (parent < 0) {
                break;
            }
            int there = isRename ? change.pairedWith(file) : commits.tree(parent).find(commits.tree(at).path[file]);
            if (there < 0) {
                break;
            }
            int now = commits.tree(at).content[file];
            int before = commits.tree(parent).content[there];
            worn = worn * change.alike(before, now);
            unlike += before == now ? 0 : 1;
            renames += isRename ? 1 : 0;
            at = parent;
            file = there;
        }
        switch (what) {
            case 0: return at;
            case 1: return file;
            case 2: return unlike;
            case 3: return renames;
            default: return floatBits(worn);
        }
    }

    private int parentWithFile(int k, int path) {
        for (int i = 0; i < commits.parentCount[k]; i++) {
            int parent = commits.parent(k, i);
            if (commits.tree(parent).find(path) >= 0) {
                return parent;
            }
        }
        return NONE;
    }

    /** The first PARENT from which on the FILE is RENAMED; the change then stands measured from that one. */
    private int parentRenamed(int k, int file) {
        for (int i = 0; i < commits.parentCount[k]; i++) {
            int parent = commits.parent(k, i);
            change.measure(commits.tree(parent), commits.tree(k));
            change.pairUp();
            if (change.pairedWith(file) >= 0) {
                return parent;
            }
        }
        return NONE;
    }

    // ---- saved and undone, and what there is in all ----

    public int keep() {
        savedCommits = commits.count;
        for (int h = 0; h < HISTORIES; h++) {
            savedHistories[h].copy(histories[h]);
        }
        for (int p = 0; p < PLANS; p++) {
            savedPlans[p].copy(plans[p]);
        }
        return savedCommits;
    }

    /** COMMITS below the saved count never change, so that their count alone brings them back. */
    public boolean undo() {
        if (savedCommits < 0) {
            return false;
        }
        commits.count = savedCommits;
        for (int h = 0; h < HISTORIES; h++) {
            histories[h].copy(savedHistories[h]);
        }
        for (int p = 0; p < PLANS; p++) {
            plans[p].copy(savedPlans[p]);
        }
        return true;
    }

    public int count(int what) {
        int found = 0;
        switch (what) {
            case 0: return commits.count;
            case 1: return tape.length;
            case 2: return commits.unlikeTrees();
            case 3: return unlikeContents();
            case 4:
                for (int p = 0; p < PLANS; p++) {
                    found += plans[p].isTold ? 1 : 0;
                }
                return found;
            case 5:
                for (int h = 0; h < HISTORIES; h++) {
                    found += histories[h].count;
                }
                return found;
            default: return NONE;
        }
    }

    private int unlikeContents() {
        Arrays.fill(slots, 0);
        int found = 0;
        for (int k = 0; k < commits.count; k++) {
            Tree tree = commits.tree(k);
            for (int i = 0; commits.treeOf[k] == k && i < tree.count; i++) {
                if (isNewContent(tree.content[i])) {
                    found++;
                }
            }
        }
        return found;
    }

    private boolean isNewContent(int content) {
        for (int step = 0; step < SLOTS; step++) {
            int slot = content * 31 + step & SLOTS - 1;
            if (slots[slot] == content) {
                return false;
            }
            if (slots[slot] == 0) {
                slots[slot] = content;
                return true;
            }
        }
        return false;
    }

    // ---- what numbers may be, and what floats are as bits ----

    private static boolean isWho(int who) {
        return who >= 0 && who <= 9;
    }

    private static boolean isHour(int hour) {
        return hour >= 0 && hour <= 999;
    }

    private static boolean isPlan(int p) {
        return p >= 0 && p < PLANS;
    }

    private static boolean isHistory(int h) {
        return h >= 0 && h < HISTORIES;
    }

    private static boolean isLetter(int letter) {
        return letter >= 0 && letter < LETTERS;
    }

    private static boolean isFile(int i) {
        return i >= 0 && i < MOST_FILES;
    }

    private static int hundredths(float x) {
        return (int) (100f * x);
    }

    /** The library's own way to these bits is not open here. x is from 0 to 1, and may be below the normal floats. */
    private static int floatBits(float x) {
        if (x <= 0f) {
            return 0;
        }
        double rest = (double) x;
        int exponent = 127;
        for (int step = 0; step < 126 && rest < 1.0; step++) {
            rest = rest * 2.0;
            exponent--;
        }
        if (rest < 1.0) {
            return (int) (rest * 8388608.0);
        }
        return exponent << 23 | (int) ((rest - 1.0) * 8388608.0);
    }

    /** x is 0, or at least 1 through 120, and at most 1. */
    private static long doubleBits(double x) {
        if (x <= 0.0) {
            return 0L;
        }
        double rest = x;
        long exponent = 1023L;
        for (int step = 0; step < 1022 && rest < 1.0; step++) {
            rest = rest * 2.0;
            exponent--;
        }
        return exponent << 52 | (long) ((rest - 1.0) * 4503599627370496.0);
    }

    // ==== the tape: bytes told, and a reader that goes over the first of them ====

    private static final class Tape {
        private final byte[] bytes = new byte[MOST_TAPE];
        int length;
        int place;
        int end;
        /** 0, or the first FAULT that was met, as it is told. */
        int fault;

        void add(int four) {
            for (int shift = 24; shift >= 0 && length < MOST_TAPE; shift -= 8) {
                bytes[length] = (byte) (four >>> shift);
                length++;
            }
        }

        int at(int i) {
            return i >= 0 && i < MOST_TAPE ? bytes[i] & 255 : NONE;
        }

        void begin(int n) {
            place = 0;
            end = Math.min(n, length);
            fault = 0;
        }

        boolean isAtEnd() {
            return place >= end;
        }

        /** The byte that is next; NONE at the end. */
        int next() {
            return place < end ? bytes[place] & 255 : NONE;
        }

        boolean isDigit() {
            return place < end && bytes[place] >= '0' && bytes[place] <= '9';
        }

        boolean isLetter() {
            return place < end && bytes[place] >= 'a' && bytes[place] <= 'z';
        }

        void fail(int number, int where) {
            if (fault == 0) {
                fault = -1000 * number - where;
            }
        }

        boolean expect(int sign) {
            if (next() != sign) {
                fail(1, place);
                return false;
            }
            place++;
            return true;
        }

        /** A digit from the lowest to the greatest; any other one is FAULT 3. */
        int digit(int lowest, int greatest) {
            if (!isDigit()) {
                fail(1, place);
                return NONE;
            }
            int value = next() - '0';
            if (value < lowest || value > greatest) {
                fail(3, place);
                return NONE;
            }
            place++;
            return value;
        }

        /** So many digits at most, read behind a 0 or a 1. */
        int digits(int most, int ahead) {
            if (!isDigit()) {
                fail(1, place);
                return NONE;
            }
            int value = ahead;
            for (int i = 0; i <= most && isDigit(); i++) {
                if (i == most) {
                    fail(2, place);
                    return NONE;
                }
                value = value * 10 + next() - '0';
                place++;
            }
            return value;
        }

        /** A WORD of one to four letters, five bits a letter. */
        int word() {
            if (!isLetter()) {
                fail(1, place);
                return NONE;
            }
            int value = 0;
            for (int i = 0; i <= 4 && isLetter(); i++) {
                if (i == 4) {
                    fail(2, place);
                    return NONE;
                }
                value = value << 5 | next() - 'a' + 1;
                place++;
            }
            return value;
        }

        /** A PATH as Tree tells it. */
        int path(int mostNames) {
            int path = 0;
            for (int i = 0; i <= mostNames; i++) {
                if (!isLetter()) {
                    fail(1, place);
                    return NONE;
                }
                if (i == mostNames) {
                    fail(5, place);
                    return NONE;
                }
                path = Tree.withName(path, i, next() - 'a' + 1);
                place++;
                if (next() != '/') {
                    return path;
                }
                place++;
            }
            return path;
        }
    }

    // ==== a TREE, and PATHS ====

    /**
     * FILES in order of their PATHS. A PATH is a number of thirty bits, five for each of six NAMES, the first
     * one highest, 0 where there is no NAME: so numbers stand in the order that the document asks of PATHS, and
     * what is below a FOLDER stands together behind it.
     */
    private static final class Tree {
        private static final int ALL_NAMES = (1 << 30) - 1;

        final int[] path;
        final int[] content;
        int count;

        Tree(int most) {
            path = new int[most];
            content = new int[most];
        }

        static int withName(int path, int i, int name) {
            return path | name << 25 - 5 * i;
        }

        static int namesIn(int path) {
            int names = 0;
            for (int i = 0; i < MOST_NAMES; i++) {
                if ((path >>> 25 - 5 * i & 31) != 0) {
                    names++;
                }
            }
            return names;
        }

        /** Whether a is b or a BEGINNING of it (the PATH without NAMES is one of all). */
        static boolean covers(int a, int b) {
            for (int shift = 25; shift >= 0; shift -= 5) {
                int name = a >>> shift & 31;
                if (name == 0) {
                    return true;
                }
                if (name != (b >>> shift & 31)) {
                    return false;
                }
            }
            return true;
        }

        /** The PATH with the NAMES of one place put for those of another; NONE if it has none then, or too many. */
        static int moved(int path, int from, int to) {
            int gone = namesIn(from);
            int put = namesIn(to);
            int names = put + namesIn(path) - gone;
            if (names < 1 || names > MOST_NAMES) {
                return NONE;
            }
            int rest = path << 5 * gone & ALL_NAMES;
            return to | rest >>> 5 * put;
        }

        void copy(Tree other) {
            count = Math.min(other.count, path.length);
            System.arraycopy(other.path, 0, path, 0, count);
            System.arraycopy(other.content, 0, content, 0, count);
        }

        /** The number of the FILE at a PATH, or NONE. */
        int find(int wanted) {
            for (int i = 0; i < count; i++) {
                if (path[i] == wanted) {
                    return i;
                }
            }
            return NONE;
        }

        /** The CONTENT at a PATH; 0 if no FILE is there. */
        int contentAt(int wanted) {
            int i = find(wanted);
            return i < 0 ? 0 : content[i];
        }

        int filesAt(int wanted) {
            int found = 0;
            for (int i = 0; i < count; i++) {
                if (covers(wanted, path[i])) {
                    found++;
                }
            }
            return found;
        }

        boolean hasFolder(int wanted) {
            for (int i = 0; i < count; i++) {
                if (path[i] != wanted && covers(wanted, path[i])) {
                    return true;
                }
            }
            return false;
        }

        boolean hasFileAhead(int wanted) {
            for (int i = 0; i < count; i++) {
                if (path[i] != wanted && covers(path[i], wanted)) {
                    return true;
                }
            }
            return false;
        }

        boolean hasFilesAlone(int folder) {
            int names = namesIn(folder) + 1;
            for (int i = 0; i < count; i++) {
                if (covers(folder, path[i]) && namesIn(path[i]) > names) {
                    return false;
                }
            }
            return true;
        }

        /** How many FILES and FOLDERS stand in a FOLDER itself: the unlike NAMES that come behind its own. */
        int entriesIn(int folder) {
            int names = namesIn(folder);
            int shift = 25 - 5 * names;
            int found = 0;
            int last = NONE;
            for (int i = 0; i < count && shift >= 0; i++) {
                if (path[i] != folder && covers(folder, path[i]) && path[i] >>> shift != last) {
                    last = path[i] >>> shift;
                    found++;
                }
            }
            return found;
        }

        void put(int wanted, int what) {
            int i = 0;
            while (i < count && path[i] < wanted) {
                i++;
            }
            if (i < count && path[i] == wanted) {
                content[i] = what;
                return;
            }
            if (count >= path.length) {
                return;
            }
            for (int j = count; j > i; j--) {
                path[j] = path[j - 1];
                content[j] = content[j - 1];
            }
            path[i] = wanted;
            content[i] = what;
            count++;
        }

        void removeFile(int wanted) {
            int left = 0;
            for (int i = 0; i < count; i++) {
                if (path[i] != wanted) {
                    path[left] = path[i];
                    content[left] = content[i];
                    left++;
                }
            }
            count = left;
        }

        /** The FILE at a PATH goes, or the FOLDER there. */
        void removeAt(int wanted) {
            int left = 0;
            for (int i = 0; i < count; i++) {
                if (!covers(wanted, path[i])) {
                    path[left] = path[i];
                    content[left] = content[i];
                    left++;
                }
            }
            count = left;
        }

        /** FILES of another TREE come, too; false: a PATH has unlike CONTENTS. */
        boolean takeAll(Tree other) {
            for (int i = 0; i < other.count; i++) {
                int there = contentAt(other.path[i]);
                if (there != 0 && there != other.content[i]) {
                    return false;
                }
                put(other.path[i], other.content[i]);
            }
            return true;
        }

        /** Whether a PATH is a BEGINNING of another one: in their order, then of the very next one, too. */
        boolean clashes() {
            for (int i = 1; i < count; i++) {
                if (covers(path[i - 1], path[i])) {
                    return true;
                }
            }
            return false;
        }

        /** Whether a PATH may not come in: it is there, or is a BEGINNING of one there, or the other way round. */
        boolean isTaken(int wanted) {
            for (int i = 0; i < count; i++) {
                if (covers(path[i], wanted) || covers(wanted, path[i])) {
                    return true;
                }
            }
            return false;
        }

        boolean isLike(Tree other) {
            if (count != other.count) {
                return false;
            }
            for (int i = 0; i < count; i++) {
                if (path[i] != other.path[i] || content[i] != other.content[i]) {
                    return false;
                }
            }
            return true;
        }

        /** Whether what is at a PATH is alike in both. */
        boolean isLikeAt(Tree other, int wanted) {
            if (filesAt(wanted) != other.filesAt(wanted)) {
                return false;
            }
            for (int i = 0; i < count; i++) {
                if (covers(wanted, path[i]) && other.contentAt(path[i]) != content[i]) {
                    return false;
                }
            }
            return true;
        }

        void spell(StringBuilder text) {
            for (int i = 0; i < count; i++) {
                if (i > 0) {
                    text.append(';');
                }
                spellPath(text, path[i]);
                text.append('=');
                spellContent(text, content[i]);
            }
        }

        private static void spellPath(StringBuilder text, int path) {
            int names = namesIn(path);
            for (int i = 0; i < names; i++) {
                if (i > 0) {
                    text.append('/');
                }
                text.append((char) ('a' + (path >>> 25 - 5 * i & 31) - 1));
            }
        }

        private static void spellContent(StringBuilder text, int content) {
            int length = Change.digitsIn(content);
            for (int i = 0; i < length; i++) {
                text.append((char) ('0' + Change.digitFromBehind(content, length - 1 - i)));
            }
        }
    }

    // ==== sets of COMMITS ====

    /** Each row a set of COMMITS: 128 bits in two longs. */
    private static final class Marks {
        private final long[] low;
        private final long[] high;

        Marks(int rows) {
            low = new long[rows];
            high = new long[rows];
        }

        boolean has(int row, int k) {
            if (row < 0 || row >= low.length || k < 0 || k >= MOST_COMMITS) {
                return false;
            }
            return ((k < 64 ? low[row] : high[row]) >>> (k & 63) & 1L) != 0L;
        }

        void put(int row, int k) {
            if (k < 64) {
                low[row] |= 1L << k;
            } else {
                high[row] |= 1L << k - 64;
            }
        }

        void cut(int row, int k) {
            if (k < 64) {
                low[row] &= ~(1L << k);
            } else {
                high[row] &= ~(1L << k - 64);
            }
        }

        void clear(int row) {
            low[row] = 0L;
            high[row] = 0L;
        }

        void putAll(int row, Marks other, int otherRow) {
            low[row] |= other.low[otherRow];
            high[row] |= other.high[otherRow];
        }

        void cutAll(int row, Marks other, int otherRow) {
            low[row] &= ~other.low[otherRow];
            high[row] &= ~other.high[otherRow];
        }

        void onlyIn(int row, Marks other, int otherRow) {
            low[row] &= other.low[otherRow];
            high[row] &= other.high[otherRow];
        }

        int size(int row) {
            return Long.bitCount(low[row]) + Long.bitCount(high[row]);
        }

        int sizeInBoth(int row, Marks other, int otherRow) {
            return Long.bitCount(low[row] & other.low[otherRow]) + Long.bitCount(high[row] & other.high[otherRow]);
        }

        /** The n-th COMMIT of a row, rising from 0 on; NONE if there are not so many. */
        int nth(int row, int n) {
            int left = n;
            for (int k = 0; k < MOST_COMMITS; k++) {
                if (has(row, k)) {
                    if (left == 0) {
                        return k;
                    }
                    left--;
                }
            }
            return NONE;
        }
    }

    // ==== all COMMITS ====

    /** Rows of COMMITS that only grow, or are cut back to a count that there was; none changes in between. */
    private static final class Commits {
        int count;
        final int[] parentCount = new int[MOST_COMMITS];
        private final int[] parents = new int[MOST_COMMITS * MOST_PARENTS];
        /** The lowest COMMIT with a like TREE: its number stands for the TREE, and it alone holds it. */
        final int[] treeOf = new int[MOST_COMMITS];
        private final Tree[] trees = new Tree[MOST_COMMITS];
        private final byte[] messages = new byte[MOST_COMMITS * MOST_MESSAGE];
        final int[] messageLength = new int[MOST_COMMITS];
        final int[] who = new int[MOST_COMMITS];
        final int[] hour = new int[MOST_COMMITS];
        final int[] generation = new int[MOST_COMMITS];
        final Marks ancestors = new Marks(MOST_COMMITS);
        private final Tree noFiles = new Tree(0);

        Commits() {
            for (int k = 0; k < MOST_COMMITS; k++) {
                trees[k] = new Tree(MOST_FILES);
            }
        }

        boolean has(int k) {
            return k >= 0 && k < count;
        }

        int parent(int k, int i) {
            return parents[k * MOST_PARENTS + i];
        }

        Tree tree(int k) {
            return trees[treeOf[k]];
        }

        /** The TREE of the first PARENT; without PARENTS one without FILES. */
        Tree firstTree(int k) {
            return parentCount[k] == 0 ? noFiles : tree(parent(k, 0));
        }

        int messageByte(int k, int i) {
            return messages[k * MOST_MESSAGE + i];
        }

        /** Whether COMMIT j is an ANCESTOR of COMMIT k. */
        boolean isAbove(int j, int k) {
            return ancestors.has(k, j);
        }

        int childrenOf(int k) {
            int found = 0;
            for (int c = k + 1; c < count; c++) {
                for (int i = 0; i < parentCount[c]; i++) {
                    if (parent(c, i) == k) {
                        found++;
                    }
                }
            }
            return found;
        }

        void markWithAncestors(int k, Marks marks, int row) {
            marks.clear(row);
            marks.putAll(row, ancestors, k);
            marks.put(row, k);
        }

        void markHistory(Refs refs, Marks marks, int row) {
            marks.clear(row);
            for (int i = 0; i < refs.count; i++) {
                marks.putAll(row, ancestors, refs.at[i]);
                marks.put(row, refs.at[i]);
            }
        }

        int lowestWith(Tree tree) {
            for (int k = 0; k < count; k++) {
                if (treeOf[k] == k && trees[k].isLike(tree)) {
                    return k;
                }
            }
            return NONE;
        }

        int unlikeTrees() {
            int found = 0;
            for (int k = 0; k < count; k++) {
                if (treeOf[k] == k) {
                    found++;
                }
            }
            return found;
        }

        /** The COMMIT that is so: the one that is there already, or a new one; TOO_MANY_COMMITS if there is no room. */
        int settle(Draft draft) {
            int lowest = lowestWith(draft.tree);
            for (int k = 0; lowest >= 0 && k < count; k++) {
                if (treeOf[k] == lowest && isAs(k, draft)) {
                    return k;
                }
            }
            if (count >= MOST_COMMITS) {
                return TOO_MANY_COMMITS;
            }
            write(count, draft, lowest);
            count++;
            return count - 1;
        }

        private boolean isAs(int k, Draft draft) {
            if (who[k] != draft.who || hour[k] != draft.hour || parentCount[k] != draft.parentCount
                || messageLength[k] != draft.messageLength) {
                return false;
            }
            for (int i = 0; i < draft.parentCount; i++) {
                if (parent(k, i) != draft.parents[i]) {
                    return false;
                }
            }
            for (int i = 0; i < draft.messageLength; i++) {
                if (messageByte(k, i) != draft.message[i]) {
                    return false;
                }
            }
            return true;
        }

        private void write(int k, Draft draft, int lowest) {
            who[k] = draft.who;
            hour[k] = draft.hour;
            parentCount[k] = draft.parentCount;
            messageLength[k] = draft.messageLength;
            System.arraycopy(draft.message, 0, messages, k * MOST_MESSAGE, draft.messageLength);
            treeOf[k] = lowest < 0 ? k : lowest;
            if (lowest < 0) {
                trees[k].copy(draft.tree);
            }
            generation[k] = 0;
            ancestors.clear(k);
            for (int i = 0; i < draft.parentCount; i++) {
                int parent = draft.parents[i];
                parents[k * MOST_PARENTS + i] = parent;
                generation[k] = Math.max(generation[k], generation[parent] + 1);
                ancestors.putAll(k, ancestors, parent);
                ancestors.put(k, parent);
            }
        }
    }

    // ==== a COMMIT in the making, and how it is read ====

    private static final class Draft {
        final int[] parents = new int[MOST_PARENTS];
        int parentCount;
        final Tree tree = new Tree(MOST_FILES_OF_TWO);
        final byte[] message = new byte[MOST_MESSAGE];
        int messageLength;
        int who;
        int hour;
        private final Tree before = new Tree(MOST_FILES_OF_TWO);

        void begin(int itsWho, int itsHour) {
            parentCount = 0;
            tree.count = 0;
            messageLength = 0;
            who = itsWho;
            hour = itsHour;
        }

        boolean hasParent(int k) {
            for (int i = 0; i < parentCount; i++) {
                if (parents[i] == k) {
                    return true;
                }
            }
            return false;
        }

        void addParent(int k) {
            if (parentCount < MOST_PARENTS) {
                parents[parentCount] = k;
                parentCount++;
            }
        }

        /** What is behind the last byte that a MESSAGE can have is cut off. */
        void addToMessage(int sign) {
            if (messageLength < MOST_MESSAGE) {
                message[messageLength] = (byte) sign;
                messageLength++;
            }
        }

        void takeMessage(Commits commits, int k) {
            messageLength = 0;
            for (int i = 0; i < commits.messageLength[k]; i++) {
                addToMessage(commits.messageByte(k, i));
            }
        }

        /** A COMMIT's text: 0, or the FAULT as it is told. */
        int read(Tape tape, int n, Commits commits) {
            begin(0, 0);
            tape.begin(n);
            if (tape.next() != ':') {
                readParents(tape, commits.count);
            }
            if (tape.fault == 0 && tape.expect(':')) {
                if (parentCount > 0) {
                    tree.copy(commits.tree(parents[0]));
                }
                if (!tape.isAtEnd() && tape.next() != ':') {
                    readEdits(tape, commits);
                }
            }
            if (tape.fault == 0 && !tape.isAtEnd() && tape.expect(':')) {
                readMessage(tape);
            }
            return tape.fault;
        }

        private void readParents(Tape tape, int commitCount) {
            for (int i = 0; i <= MOST_PARENTS; i++) {
                int start = tape.place;
                if (parentCount == MOST_PARENTS && tape.isDigit()) {
                    tape.fail(4, start);
                }
                int k = tape.digits(MOST_DIGITS, 0);
                if (tape.fault != 0) {
                    return;
                }
                if (k >= commitCount) {
                    tape.fail(9, start);
                } else if (hasParent(k)) {
                    tape.fail(6, start);
                }
                addParent(k);
                if (tape.fault != 0 || tape.next() != ',') {
                    return;
                }
                tape.place++;
            }
        }

        private void readEdits(Tape tape, Commits commits) {
            for (int i = 0; i < MOST_COMMIT_TEXT; i++) {
                readEdit(tape, commits);
                if (tape.fault != 0 || tape.next() != ';') {
                    return;
                }
                tape.place++;
            }
        }

        private void readEdit(Tape tape, Commits commits) {
            int start = tape.place;
            int sign = tape.next();
            if (sign != '+' && sign != '-' && sign != '*' && sign != '^') {
                tape.fail(1, start);
                return;
            }
            tape.place++;
            int d = sign == '^' ? tape.digit(0, parentCount - 1) : 0;
            int path = tape.fault == 0 ? tape.path(MOST_NAMES_TOLD) : 0;
            int second = 0;
            if (sign == '+' && tape.fault == 0 && tape.expect('=')) {
                second = tape.digits(MOST_CONTENT, AHEAD_OF_CONTENT);
            }
            if (sign == '*' && tape.fault == 0 && tape.expect('>')) {
                second = tape.path(MOST_NAMES_TOLD);
            }
            if (tape.fault != 0) {
                return;
            }
            int fault = 0;
            if (sign == '+') {
                fault = putFile(path, second);
            } else if (sign == '^') {
                fault = fetch(commits.tree(parents[d]), path);
            } else if (tree.filesAt(path) == 0) {
                fault = 8;
            } else if (sign == '*') {
                fault = moveAll(path, second);
            } else {
                tree.removeAt(path);
            }
            if (fault != 0) {
                tape.fail(fault, start);
            }
        }

        /** As moveAll and fetch: 0, or the FAULT's number. */
        private int putFile(int path, int content) {
            if (tree.hasFolder(path) || tree.hasFileAhead(path)) {
                return 7;
            }
            if (tree.find(path) < 0 && tree.count >= MOST_FILES) {
                return 4;
            }
            tree.put(path, content);
            return 0;
        }

        private int moveAll(int from, int to) {
            if (tree.filesAt(to) > 0 || Tree.covers(from, to) || tree.hasFileAhead(to)) {
                return 7;
            }
            for (int i = 0; i < tree.count; i++) {
                if (Tree.covers(from, tree.path[i]) && Tree.moved(tree.path[i], from, to) < 0) {
                    return 5;
                }
            }
            before.copy(tree);
            tree.removeAt(from);
            for (int i = 0; i < before.count; i++) {
                if (Tree.covers(from, before.path[i])) {
                    tree.put(Tree.moved(before.path[i], from, to), before.content[i]);
                }
            }
            return 0;
        }

        private int fetch(Tree other, int path) {
            int coming = other.filesAt(path);
            if (coming > 0 && tree.hasFileAhead(path)) {
                return 7;
            }
            if (tree.count - tree.filesAt(path) + coming > MOST_FILES) {
                return 4;
            }
            tree.removeAt(path);
            for (int i = 0; i < other.count; i++) {
                if (Tree.covers(path, other.path[i])) {
                    tree.put(other.path[i], other.content[i]);
                }
            }
            return 0;
        }

        private void readMessage(Tape tape) {
            for (int i = 0; i <= 12 && !tape.isAtEnd(); i++) {
                if (i == 12) {
                    tape.fail(2, tape.place);
                    return;
                }
                if (!tape.isDigit() && !tape.isLetter() && tape.next() != '#') {
                    tape.fail(1, tape.place);
                    return;
                }
                addToMessage(tape.next());
                tape.place++;
            }
        }
    }

    // ==== PLANS ====

    /** What LINES of one word tell: a first one, and a second one behind the >. */
    private static final class Pairs {
        int count;
        final int[] first;
        final int[] second;

        Pairs(int most) {
            first = new int[most];
            second = new int[most];
        }

        int find(int wanted) {
            for (int i = 0; i < count; i++) {
                if (first[i] == wanted) {
                    return i;
                }
            }
            return NONE;
        }

        void add(int one, int other) {
            if (count < first.length) {
                first[count] = one;
                second[count] = other;
                count++;
            }
        }

        /** The second one of a pair; what is the first one of none stays as it is. */
        int exchanged(int value) {
            int i = find(value);
            return i < 0 ? value : second[i];
        }

        /** Whether a first one is a PATH, or a BEGINNING of it. */
        boolean cover(int path) {
            for (int i = 0; i < count; i++) {
                if (Tree.covers(first[i], path)) {
                    return true;
                }
            }
            return false;
        }

        void copy(Pairs other) {
            count = Math.min(other.count, first.length);
            System.arraycopy(other.first, 0, first, 0, count);
            System.arraycopy(other.second, 0, second, 0, count);
        }
    }

    /** A PLAN as told, and what is MAPPED by it. */
    private static final class Plan {
        boolean isTold;
        int lines;
        int from;
        int to;
        final Pairs keeps = new Pairs(4);
        final Pairs drops = new Pairs(4);
        final Pairs moves = new Pairs(4);
        final Pairs swaps = new Pairs(4);
        final Pairs words = new Pairs(4);
        final Pairs grafts = new Pairs(4);
        final Pairs signs = new Pairs(10);
        int skips;
        int merges;
        int empty;
        int tags;
        int since;
        int most;
        /** Of each COMMIT its IMAGE, NONE if it has none. */
        final int[] image = new int[MOST_COMMITS];
        /** KEPT, EMPTY, SKIPPED; NONE for what is not MAPPED. */
        final int[] fate = new int[MOST_COMMITS];

        void begin() {
            isTold = true;
            lines = 0;
            keeps.count = 0;
            drops.count = 0;
            moves.count = 0;
            swaps.count = 0;
            words.count = 0;
            grafts.count = 0;
            signs.count = 0;
            skips = 0;
            merges = 1;
            empty = 2;
            tags = 2;
            since = 0;
            most = 6;
            Arrays.fill(image, NONE);
            Arrays.fill(fate, NONE);
        }

        void copy(Plan other) {
            isTold = other.isTold;
            lines = other.lines;
            from = other.from;
            to = other.to;
            keeps.copy(other.keeps);
            drops.copy(other.drops);
            moves.copy(other.moves);
            swaps.copy(other.swaps);
            words.copy(other.words);
            grafts.copy(other.grafts);
            signs.copy(other.signs);
            skips = other.skips;
            merges = other.merges;
            empty = other.empty;
            tags = other.tags;
            since = other.since;
            most = other.most;
            takeMap(other.image, other.fate);
        }

        void takeMap(int[] images, int[] fates) {
            System.arraycopy(images, 0, image, 0, MOST_COMMITS);
            System.arraycopy(fates, 0, fate, 0, MOST_COMMITS);
        }

        boolean isMapped(int k) {
            return fate[k] >= 0;
        }

        boolean isKept(int k) {
            return fate[k] == KEPT;
        }

        int foreCount(Commits commits, int k) {
            int graft = grafts.find(k);
            if (graft < 0) {
                return commits.parentCount[k];
            }
            return grafts.second[graft] < 0 ? 0 : 1;
        }

        int foreAt(Commits commits, int k, int i) {
            int graft = grafts.find(k);
            return graft < 0 ? commits.parent(k, i) : grafts.second[graft];
        }

        /** Where a FILE TAKEN comes; NONE if that has no NAMES, or too many. */
        int placeOf(int path) {
            int best = NONE;
            for (int i = 0; i < moves.count; i++) {
                int place = moves.first[i];
                boolean fits = Tree.covers(place, path);
                if (fits && (best < 0 || Tree.namesIn(place) > Tree.namesIn(moves.first[best]))) {
                    best = i;
                }
            }
            return best < 0 ? path : Tree.moved(path, moves.first[best], moves.second[best]);
        }
    }

    /** Reads a PLAN's text. */
    private static final class PlanText {
        private static final int FROM = 0;
        private static final int TO = 1;
        private static final int KEEP = 2;
        private static final int DROP = 3;
        private static final int MOVE = 4;
        private static final int SWAP = 5;
        private static final int WORD = 6;
        private static final int GRAFT = 7;
        private static final int SIGN = 8;
        private static final int SKIP = 9;
        private static final int MERGES = 10;
        private static final int NO_EMPTY = 11;
        private static final int TAGS = 12;
        private static final int SINCE = 13;
        private static final int MOST = 14;
        private static final int UNKNOWN = 15;
        private static final int MOST_OF_A_WORD = 4;

        final Plan told = new Plan();
        private int commitCount;
        /** Where the word of the LINE begins. */
        private int start;
        /** Bits of the words that were told and can be told once. */
        private int toldOnce;

        /** 0, or the FAULT as it is told; else the PLAN is told then. */
        int read(Tape tape, int n, int itsCommitCount) {
            commitCount = itsCommitCount;
            toldOnce = 0;
            tape.begin(n);
            told.begin();
            for (int i = 0; i < MOST_PLAN_TEXT; i++) {
                readLine(tape);
                boolean isLast = tape.isAtEnd() && told.lines >= 2;
                if (tape.fault != 0 || isLast || !tape.expect(';')) {
                    return tape.fault;
                }
            }
            return tape.fault;
        }

        private void readLine(Tape tape) {
            start = tape.place;
            int word = readWord(tape);
            boolean fits = told.lines < 2 ? word == told.lines : word > TO && word < UNKNOWN;
            if (!fits) {
                tape.fail(1, start);
                return;
            }
            if (isTooMany(word)) {
                tape.fail(word < SIGN ? 4 : 6, start);
                return;
            }
            if (!tape.expect(':')) {
                return;
            }
            told.lines++;
            if (word == KEEP || word == DROP) {
                int path = tape.path(MOST_NAMES_TOLD);
                pairsOf(word).add(path, 0);
            } else if (word >= MOVE && word <= SIGN) {
                readPair(tape, word);
            } else {
                readSetting(tape, word);
            }
        }

        private int readWord(Tape tape) {
            for (int i = 0; i < MOST_PLAN_TEXT && tape.isLetter(); i++) {
                tape.place++;
            }
            for (int word = FROM; word < UNKNOWN; word++) {
                if (isSpelt(tape, spelling(word))) {
                    return word;
                }
            }
            return UNKNOWN;
        }

        private boolean isSpelt(Tape tape, String wanted) {
            if (tape.place - start != wanted.length()) {
                return false;
            }
            for (int i = 0; i < wanted.length(); i++) {
                if (tape.at(start + i) != wanted.charAt(i)) {
                    return false;
                }
            }
            return true;
        }

        private static String spelling(int word) {
            switch (word) {
                case FROM: return "from";
                case TO: return "to";
                case KEEP: return "keep";
                case DROP: return "drop";
                case MOVE: return "move";
                case SWAP: return "swap";
                case WORD: return "word";
                case GRAFT: return "graft";
                case SIGN: return "sign";
                case SKIP: return "skip";
                case MERGES: return "merges";
                case NO_EMPTY: return "empty";
                case TAGS: return "tags";
                case SINCE: return "since";
                default: return "most";
            }
        }

        private boolean isTooMany(int word) {
            if (word >= KEEP && word <= GRAFT) {
                return pairsOf(word).count >= MOST_OF_A_WORD;
            }
            if (word < MERGES) {
                return false;
            }
            boolean again = (toldOnce >>> word & 1) != 0;
            toldOnce |= 1 << word;
            return again;
        }

        private Pairs pairsOf(int word) {
            switch (word) {
                case KEEP: return told.keeps;
                case DROP: return told.drops;
                case MOVE: return told.moves;
                case SWAP: return told.swaps;
                case WORD: return told.words;
                case GRAFT: return told.grafts;
                default: return told.signs;
            }
        }

        private void readPair(Tape tape, int word) {
            Pairs pairs = pairsOf(word);
            int first = word == GRAFT ? readCommit(tape, NONE) : readSide(tape, word);
            if (tape.fault != 0) {
                return;
            }
            if (pairs.find(first) >= 0) {
                tape.fail(6, start);
                return;
            }
            if (!tape.expect('>')) {
                return;
            }
            if (word == GRAFT && tape.next() == '.') {
                tape.place++;
                pairs.add(first, NONE);
            } else {
                pairs.add(first, word == GRAFT ? readCommit(tape, first) : readSide(tape, word));
            }
        }

        private int readSide(Tape tape, int word) {
            switch (word) {
                case MOVE:
                    if (tape.next() == '.') {
                        tape.place++;
                        return 0;
                    }
                    return tape.path(MOST_NAMES_TOLD);
                case SWAP: return tape.digits(MOST_CONTENT, AHEAD_OF_CONTENT);
                case WORD: return tape.word();
                default: return tape.digit(0, 9);
            }
        }

        /** A COMMIT's number; behind a graft's > one that is to be lower than the one ahead of it. */
        private int readCommit(Tape tape, int than) {
            int begin = tape.place;
            int k = tape.digits(MOST_DIGITS, 0);
            if (k >= commitCount) {
                tape.fail(9, begin);
            } else if (than >= 0 && k >= than) {
                tape.fail(7, begin);
            }
            return k;
        }

        private void readSetting(Tape tape, int word) {
            switch (word) {
                case FROM:
                    told.from = tape.digit(0, 3);
                    break;
                case TO:
                    readTo(tape);
                    break;
                case SKIP:
                    int digit = tape.digit(0, 9);
                    told.skips |= digit < 0 ? 0 : 1 << digit;
                    break;
                case MERGES:
                    told.merges = tape.digit(0, 3);
                    break;
                case NO_EMPTY:
                    told.empty = tape.digit(0, 2);
                    break;
                case TAGS:
                    told.tags = tape.digit(0, 2);
                    break;
                case SINCE:
                    told.since = tape.digits(MOST_DIGITS, 0);
                    break;
                default:
                    told.most = tape.digit(1, 6);
                    break;
            }
        }

        private void readTo(Tape tape) {
            int place = tape.place;
            told.to = tape.digit(0, 3);
            if (told.to == told.from) {
                tape.fail(3, place);
            }
        }
    }

    // ==== REFS of a HISTORY ====

    private static final class Refs {
        int count;
        /** Twice as many as may stay: a RUN lays all before they are counted. */
        final int[] kind = new int[MOST_REFS * 2];
        final int[] letter = new int[MOST_REFS * 2];
        final int[] at = new int[MOST_REFS * 2];
        /** The PLAN that laid it, NONE if it was told since. */
        final int[] laidBy = new int[MOST_REFS * 2];

        int find(int itsKind, int itsLetter) {
            for (int i = 0; i < count; i++) {
                if (kind[i] == itsKind && letter[i] == itsLetter) {
                    return i;
                }
            }
            return NONE;
        }

        /** The COMMIT that a BRANCH is at, or NONE. */
        int branch(int itsLetter) {
            int i = find(BRANCH, itsLetter);
            return i < 0 ? NONE : at[i];
        }

        void lay(int itsKind, int itsLetter, int k, int plan) {
            int i = find(itsKind, itsLetter);
            if (i < 0) {
                if (count >= kind.length) {
                    return;
                }
                i = makeRoom(itsKind * LETTERS + itsLetter);
                kind[i] = itsKind;
                letter[i] = itsLetter;
            }
            at[i] = k;
            laidBy[i] = plan;
        }

        /** Moves what comes behind in the order of REFS by one; the place that is free then. */
        private int makeRoom(int order) {
            int i = count;
            while (i > 0 && kind[i - 1] * LETTERS + letter[i - 1] > order) {
                take(i, this, i - 1);
                i--;
            }
            count++;
            return i;
        }

        private void take(int i, Refs other, int j) {
            kind[i] = other.kind[j];
            letter[i] = other.letter[j];
            at[i] = other.at[j];
            laidBy[i] = other.laidBy[j];
        }

        void remove(int itsKind, int itsLetter) {
            int gone = find(itsKind, itsLetter);
            if (gone < 0) {
                return;
            }
            for (int i = gone; i + 1 < count; i++) {
                take(i, this, i + 1);
            }
            count--;
        }

        void removeLaidBy(int plan) {
            int left = 0;
            for (int i = 0; i < count; i++) {
                if (laidBy[i] != plan) {
                    take(left, this, i);
                    left++;
                }
            }
            count = left;
        }

        void copy(Refs other) {
            count = other.count;
            for (int i = 0; i < count; i++) {
                take(i, other, i);
            }
        }

        /** How many of these the other HISTORY has not at the same COMMIT. */
        int missesOf(Refs other) {
            int found = 0;
            for (int i = 0; i < count; i++) {
                int j = other.find(kind[i], letter[i]);
                if (j < 0 || other.at[j] != at[i]) {
                    found++;
                }
            }
            return found;
        }

        /** How many of these the other HISTORY has at another COMMIT. */
        int movesOf(Refs other) {
            int found = 0;
            for (int i = 0; i < count; i++) {
                int j = other.find(kind[i], letter[i]);
                if (j >= 0 && other.at[j] != at[i]) {
                    found++;
                }
            }
            return found;
        }
    }

    // ==== how COMMITS are REWRITTEN ====

    private static final class Rewriter {
        final Commits commits = new Commits();
        private final Draft draft = new Draft();
        final Marks elders = new Marks(MOST_COMMITS);
        private final Marks ofPlan = new Marks(1);
        /** What would be MAPPED; the PLAN takes it over when all else holds. */
        final int[] image = new int[MOST_COMMITS];
        final int[] fate = new int[MOST_COMMITS];
        int taken;
        int lost;
        /** The COMMIT of the FORE that each of PARENTS' counts as. */
        private final int[] countsAs = new int[MOST_PARENTS];
        private final boolean[] goes = new boolean[MOST_PARENTS];

        /** TREE' as it was carried last. */
        Tree tree() {
            return draft.tree;
        }

        boolean isOfPlan(int k) {
            return ofPlan.has(0, k);
        }

        void markPlan(Plan plan, Refs from) {
            for (int k = 0; k < commits.count; k++) {
                elders.clear(k);
                int fore = plan.foreCount(commits, k);
                for (int i = 0; i < fore; i++) {
                    int elder = plan.foreAt(commits, k, i);
                    elders.putAll(k, elders, elder);
                    elders.put(k, elder);
                }
            }
            ofPlan.clear(0);
            for (int i = 0; i < from.count; i++) {
                ofPlan.putAll(0, elders, from.at[i]);
                ofPlan.put(0, from.at[i]);
            }
        }

        /** What is MAPPED already stays, or nothing is. */
        void begin(Plan plan, Refs from, boolean anew) {
            markPlan(plan, from);
            if (anew) {
                Arrays.fill(image, NONE);
                Arrays.fill(fate, NONE);
            } else {
                System.arraycopy(plan.image, 0, image, 0, MOST_COMMITS);
                System.arraycopy(plan.fate, 0, fate, 0, MOST_COMMITS);
            }
        }

        /** False: a new COMMIT would have no room. Lower ones of the PLAN are MAPPED then. */
        boolean rewrite(Plan plan, int k) {
            int signedBy = plan.signs.exchanged(commits.who[k]);
            draft.begin(signedBy, commits.hour[k]);
            carryTree(plan, commits.tree(k));
            gatherParents(plan, k);
            thinParents(plan.merges);
            boolean isEmpty = plan.empty > 0 && bringsNothing() && (plan.empty == 2 || !isEmptyByItself(plan, k));
            if (isEmpty || isSkipped(plan, k)) {
                fate[k] = isEmpty ? EMPTY : SKIPPED;
                image[k] = draft.parentCount == 0 ? NONE : draft.parents[0];
                return true;
            }
            carryMessage(plan, k);
            int made = commits.settle(draft);
            if (made < 0) {
                return false;
            }
            fate[k] = KEPT;
            image[k] = made;
            return true;
        }

        void carryTree(Plan plan, Tree old) {
            Tree tree = draft.tree;
            tree.count = 0;
            taken = 0;
            lost = 0;
            for (int i = 0; i < old.count; i++) {
                int path = old.path[i];
                boolean kept = plan.keeps.count == 0 || plan.keeps.cover(path);
                if (Change.digitsIn(old.content[i]) > plan.most || !kept || plan.drops.cover(path)) {
                    continue;
                }
                taken++;
                int place = plan.placeOf(path);
                if (place < 0 || tree.isTaken(place)) {
                    lost++;
                } else {
                    tree.put(place, plan.swaps.exchanged(old.content[i]));
                }
            }
        }

        private void gatherParents(Plan plan, int k) {
            int fore = plan.foreCount(commits, k);
            for (int i = 0; i < fore; i++) {
                int elder = plan.foreAt(commits, k, i);
                int parent = image[elder];
                if (parent >= 0 && !draft.hasParent(parent) && draft.parentCount < MOST_PARENTS) {
                    countsAs[draft.parentCount] = elder;
                    draft.addParent(parent);
                }
            }
        }

        private void thinParents(int merges) {
            int all = draft.parentCount;
            for (int i = 0; i < all; i++) {
                goes[i] = merges > 0 && isNeedless(i, merges == 1);
            }
            draft.parentCount = 0;
            for (int i = 0; i < all; i++) {
                if (!goes[i]) {
                    draft.addParent(draft.parents[i]);
                }
            }
            for (int i = 0; merges == 3 && draft.parentCount >= 2 && i < draft.parentCount; i++) {
                if (commits.tree(draft.parents[i]).isLike(draft.tree)) {
                    draft.parents[0] = draft.parents[i];
                    draft.parentCount = 1;
                }
            }
        }

        /** A merge stays one of substance where its parents were ELDERS of each other before already. */
        private boolean isNeedless(int i, boolean unlessSoBefore) {
            for (int j = 0; j < draft.parentCount; j++) {
                boolean isAbove = commits.isAbove(draft.parents[i], draft.parents[j]);
                if (isAbove && !(unlessSoBefore && elders.has(countsAs[j], countsAs[i]))) {
                    return true;
                }
            }
            return false;
        }

        private boolean bringsNothing() {
            if (draft.parentCount == 0) {
                return draft.tree.count == 0;
            }
            return draft.parentCount == 1 && commits.tree(draft.parents[0]).isLike(draft.tree);
        }

        private boolean isEmptyByItself(Plan plan, int k) {
            int fore = plan.foreCount(commits, k);
            if (fore == 0) {
                return commits.tree(k).count == 0;
            }
            return fore == 1 && commits.treeOf[k] == commits.treeOf[plan.foreAt(commits, k, 0)];
        }

        private boolean isSkipped(Plan plan, int k) {
            boolean asked = (plan.skips >>> commits.who[k] & 1) != 0 || commits.hour[k] < plan.since;
            return asked && draft.parentCount <= 1;
        }

        private void carryMessage(Plan plan, int k) {
            int length = commits.messageLength[k];
            int at = 0;
            for (int piece = 0; piece < MOST_MESSAGE && at < length; piece++) {
                int sign = commits.messageByte(k, at);
                int end = endOfPiece(k, at);
                if (sign == '#' && carryMention(k, at + 1, end)) {
                    at = end;
                    continue;
                }
                int word = sign >= 'a' && sign <= 'z' && end - at <= 4 ? wordAt(k, at, end) : NONE;
                int index = word < 0 ? NONE : plan.words.find(word);
                if (index >= 0) {
                    addWord(plan.words.second[index]);
                }
                for (int i = at; index < 0 && i < end; i++) {
                    draft.addToMessage(commits.messageByte(k, i));
                }
                at = end;
            }
        }

        /** Behind a # all digits, behind a letter all letters; else a piece is one byte. */
        private int endOfPiece(int k, int at) {
            int sign = commits.messageByte(k, at);
            int lowest = sign == '#' ? '0' : 'a';
            int greatest = sign == '#' ? '9' : 'z';
            int end = at + 1;
            if (sign != '#' && (sign < 'a' || sign > 'z')) {
                return end;
            }
            while (end < commits.messageLength[k] && commits.messageByte(k, end) >= lowest
                && commits.messageByte(k, end) <= greatest) {
                end++;
            }
            return end;
        }

        /** The digits from one place on: whether they name an ELDER; then what they become is told. */
        private boolean carryMention(int k, int from, int end) {
            int digits = end - from;
            if (digits < 1 || digits > 3 || digits > 1 && commits.messageByte(k, from) == '0') {
                return false;
            }
            int named = 0;
            for (int i = from; i < end; i++) {
                named = named * 10 + commits.messageByte(k, i) - '0';
            }
            if (!elders.has(k, named)) {
                return false;
            }
            draft.addToMessage('#');
            int becomes = image[named];
            if (becomes < 0) {
                draft.addToMessage('?');
                return true;
            }
            int length = becomes >= 100 ? 3 : becomes >= 10 ? 2 : 1;
            for (int i = length - 1; i >= 0; i--) {
                draft.addToMessage('0' + Change.digitFromBehind(becomes, i));
            }
            return true;
        }

        private int wordAt(int k, int at, int end) {
            int word = 0;
            for (int i = at; i < end; i++) {
                word = word << 5 | commits.messageByte(k, i) - 'a' + 1;
            }
            return word;
        }

        private void addWord(int word) {
            for (int shift = 15; shift >= 0; shift -= 5) {
                int letter = word >>> shift & 31;
                if (letter != 0) {
                    draft.addToMessage('a' + letter - 1);
                }
            }
        }
    }

    // ==== from a TREE to another one ====

    /** PATHS UNLIKE in two TREES, in order, and the pairs RENAMED among them. */
    private static final class Change {
        int count;
        private final int[] path = new int[MOST_FILES_OF_TWO];
        /** CONTENTS ahead and behind, 0 where no FILE is; and the numbers of the FILES in their TREES. */
        private final int[] was = new int[MOST_FILES_OF_TWO];
        private final int[] is = new int[MOST_FILES_OF_TWO];
        private final int[] wasAt = new int[MOST_FILES_OF_TWO];
        private final int[] isAt = new int[MOST_FILES_OF_TWO];
        int pairs;
        final int[] pairFrom = new int[MOST_FILES];
        final int[] pairTo = new int[MOST_FILES];
        final float[] pairLikeness = new float[MOST_FILES];
        private int goneCount;
        private int newCount;
        private final int[] gone = new int[MOST_FILES];
        private final int[] come = new int[MOST_FILES];
        /** Of each FILE GONE with each one NEW the LIKENESS, 0 when one of them is paired. */
        private final float[] values = new float[MOST_FILES * MOST_FILES];
        private final int[] digits = new int[6];
        private final int[] otherDigits = new int[6];
        private final int[] common = new int[7];

        /** How many digits a CONTENT has, the 1 ahead of them not counted. */
        static int digitsIn(int content) {
            int found = 0;
            for (int rest = content; rest >= 10 && found < 6; rest /= 10) {
                found++;
            }
            return found;
        }

        static int digitFromBehind(int number, int place) {
            int rest = number;
            for (int i = 0; i < place; i++) {
                rest /= 10;
            }
            return rest % 10;
        }

        void measure(Tree from, Tree to) {
            count = 0;
            pairs = 0;
            int i = 0;
            int j = 0;
            for (int step = 0; step < 2 * MOST_FILES && (i < from.count || j < to.count); step++) {
                boolean ahead = j >= to.count || i < from.count && from.path[i] <= to.path[j];
                boolean behind = i >= from.count || j < to.count && to.path[j] <= from.path[i];
                int before = ahead ? from.content[i] : 0;
                int now = behind ? to.content[j] : 0;
                if (before != now) {
                    add(ahead ? from.path[i] : to.path[j], before, now, i, j);
                }
                i += ahead ? 1 : 0;
                j += behind ? 1 : 0;
            }
        }

        private void add(int itsPath, int before, int now, int i, int j) {
            if (count < MOST_FILES_OF_TWO) {
                path[count] = itsPath;
                was[count] = before;
                is[count] = now;
                wasAt[count] = i;
                isAt[count] = j;
                count++;
            }
        }

        /** 0 GONE, 1 NEW, 2 CHANGED. */
        int countOf(int what) {
            int found = 0;
            for (int i = 0; i < count; i++) {
                if (what == (is[i] == 0 ? 0 : was[i] == 0 ? 1 : 2)) {
                    found++;
                }
            }
            return found;
        }

        boolean isLike(Change other) {
            if (count != other.count) {
                return false;
            }
            for (int i = 0; i < count; i++) {
                if (path[i] != other.path[i] || is[i] != other.is[i]) {
                    return false;
                }
            }
            return true;
        }

        /** Whether each PATH is in a TREE as it was ahead, or as it is behind. */
        boolean fits(Tree tree) {
            for (int i = 0; i < count; i++) {
                int there = tree.contentAt(path[i]);
                if (there != was[i] && there != is[i]) {
                    return false;
                }
            }
            return true;
        }

        void apply(Tree tree) {
            for (int i = 0; i < count; i++) {
                if (is[i] == 0) {
                    tree.removeFile(path[i]);
                }
            }
            for (int i = 0; i < count; i++) {
                if (is[i] != 0) {
                    tree.put(path[i], is[i]);
                }
            }
        }

        /** Finds the pairs RENAMED, the greatest LIKENESS first; of like ones the first that is come to. */
        void pairUp() {
            pairs = 0;
            gather();
            for (int i = 0; i < goneCount; i++) {
                for (int j = 0; j < newCount; j++) {
                    values[i * MOST_FILES + j] = alike(was[gone[i]], is[come[j]]);
                }
            }
            for (int round = 0; round < MOST_FILES; round++) {
                if (!pairNext()) {
                    return;
                }
            }
        }

        private void gather() {
            goneCount = 0;
            newCount = 0;
            for (int i = 0; i < count; i++) {
                if (is[i] == 0 && goneCount < MOST_FILES) {
                    gone[goneCount] = i;
                    goneCount++;
                } else if (was[i] == 0 && newCount < MOST_FILES) {
                    come[newCount] = i;
                    newCount++;
                }
            }
        }

        /** A FILE is paired once: then no LIKENESS of its row or column counts any more. */
        private boolean pairNext() {
            int bestGone = NONE;
            int bestNew = NONE;
            float greatest = 0f;
            for (int i = 0; i < goneCount; i++) {
                for (int j = 0; j < newCount; j++) {
                    float value = values[i * MOST_FILES + j];
                    if (value >= 0.6f && value > greatest) {
                        bestGone = i;
                        bestNew = j;
                        greatest = value;
                    }
                }
            }
            if (bestGone < 0 || bestNew < 0 || pairs >= MOST_FILES) {
                return false;
            }
            for (int i = 0; i < MOST_FILES; i++) {
                values[bestGone * MOST_FILES + i] = 0f;
                values[i * MOST_FILES + bestNew] = 0f;
            }
            pairFrom[pairs] = wasAt[gone[bestGone]];
            pairTo[pairs] = isAt[come[bestNew]];
            pairLikeness[pairs] = greatest;
            pairs++;
            return true;
        }

        /** The FILE that was RENAMED to this one, or NONE. */
        int pairedWith(int file) {
            for (int i = 0; i < pairs; i++) {
                if (pairTo[i] == file) {
                    return pairFrom[i];
                }
            }
            return NONE;
        }

        /** LIKENESS of two CONTENTS. */
        float alike(int a, int b) {
            if (a == b) {
                return 1f;
            }
            int n = spread(a, digits);
            int m = spread(b, otherDigits);
            if (n + m < 1) {
                return 0f;
            }
            return (float) (2 * longestInBoth(n, m)) / (float) (n + m);
        }

        private static int spread(int content, int[] into) {
            int n = digitsIn(content);
            int rest = content;
            for (int i = n - 1; i >= 0; i--) {
                into[i] = rest % 10;
                rest /= 10;
            }
            return n;
        }

        /** The row tells, for the first digits of one CONTENT, how many are in both for each beginning of the other. */
        private int longestInBoth(int n, int m) {
            Arrays.fill(common, 0);
            for (int i = 0; i < n; i++) {
                int diagonal = 0;
                for (int j = 0; j < m; j++) {
                    int above = common[j + 1];
                    common[j + 1] = digits[i] == otherDigits[j] ? diagonal + 1 : Math.max(above, common[j]);
                    diagonal = above;
                }
            }
            return common[m];
        }
    }
}
