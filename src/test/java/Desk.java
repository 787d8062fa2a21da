import java.util.function.IntToLongFunction;
import java.util.function.LongSupplier;

/** One CarriedHistory with what tells it texts and holds its answers against those that are due. */
abstract class Desk {
    static int right = 0;
    static int wrong = 0;
    /** What the answers belong to, told with each one that is wrong. */
    static String where = "";

    CarriedHistory x = new CarriedHistory();

    static void is(long got, long due, String what) {
        is("" + got, "" + due, what);
    }

    static void is(boolean got, boolean due, String what) {
        is(got ? 1 : 0, due ? 1 : 0, what);
    }

    static void is(String got, String due, String what) {
        if (got.equals(due)) {
            right++;
        } else {
            wrong++;
            System.out.println(where + ": " + what + " is " + got + ", due is " + due);
        }
    }

    // ---- texts ----

    private static int four(String text, int at) {
        int value = 0;
        for (int i = at; i < at + 4; i++) {
            value = value << 8 | (i < text.length() ? text.charAt(i) & 255 : 'a');
        }
        return value;
    }

    /** The text on the tape, filled up with the letter a. */
    void tell(String text) {
        for (int at = 0; at < text.length(); at += 20) {
            x.feed(four(text, at), four(text, at + 4), four(text, at + 8), four(text, at + 12), four(text, at + 16));
        }
    }

    int commit(String text, int who, int hour) {
        tell(text);
        return x.commit(text.length(), who, hour);
    }

    /** COMMITS that are not there yet, each of an HOUR of its own. */
    void commits(String... texts) {
        for (String text : texts) {
            is(commit(text, 0, x.count(0)), x.count(0) - 1, "commit " + text);
        }
    }

    /** COMMITS without PARENTS and FILES until there are so many. */
    void fill(int most) {
        for (int hour = 0; x.count(0) < most; hour++) {
            commit(":", 9, hour);
        }
    }

    int plan(int p, String text) {
        tell(text);
        return x.plan(p, text.length());
    }

    int look(int k, String path, int what) {
        tell(path);
        return x.look(k, path.length(), what);
    }

    int touches(int h, String path) {
        tell(path);
        return x.touches(h, path.length());
    }

    String spelt(int k) {
        StringBuilder b = new StringBuilder();
        for (int at = 0; at < 600; at++) {
            int sign = x.spelt(k, at);
            if (sign < 0) {
                return sign == -2 ? b.toString() : "" + sign;
            }
            b.append((char) sign);
        }
        return b.toString();
    }

    // ---- REFS and PLANS ----

    void branch(int h, char letter, int k) {
        is(x.ref(h, 0, letter - 'a', k) > 0, true, "branch " + letter);
    }

    void tag(int h, char letter, int k) {
        is(x.ref(h, 1, letter - 'a', k) > 0, true, "tag " + letter);
    }

    /** From HISTORY 0, whose BRANCH a is at COMMIT k, by PLAN 0 to HISTORY 1. */
    void carry(int k, String lines) {
        branch(0, 'a', k);
        is(plan(0, "from:0;to:1" + lines) > 1, true, "plan " + lines);
        is(x.run(0) >= 0, true, "run " + lines);
    }

    /** The IMAGE of a COMMIT by PLAN 0 as a text. */
    String carried(int k) {
        return spelt(x.image(0, k, 0));
    }

    /** REFS of a HISTORY as a text: b or t, the letter, the COMMIT, and the PLAN that laid it. */
    String refs(int h) {
        StringBuilder b = new StringBuilder();
        for (int i = 0; i < 8 && x.refIs(h, i, 0) >= 0; i++) {
            b.append(i == 0 ? "" : " ").append(x.refIs(h, i, 0) == 0 ? 'b' : 't').append((char) ('a' + x.refIs(h, i, 1)));
            b.append(x.refIs(h, i, 2)).append(x.refIs(h, i, 3) < 0 ? "" : "/" + x.refIs(h, i, 3));
        }
        return b.toString();
    }

    // ---- what stays ----

    /** All that stands, but for the tape. */
    String all() {
        StringBuilder b = new StringBuilder();
        for (int what : new int[] {0, 2, 3, 4, 5}) {
            b.append(x.count(what)).append(' ');
        }
        int n = x.count(0);
        for (int k = 0; k < n; k++) {
            b.append('\n').append(spelt(k)).append(' ').append(x.commitIs(k, 1)).append(' ').append(x.commitIs(k, 2));
        }
        for (int h = 0; h < 4; h++) {
            b.append("\nrefs ").append(refs(h));
            b.append("\nplan ").append(x.share(h));
            for (int what = 0; what < 21; what++) {
                b.append(' ').append(x.planIs(h, what));
            }
            for (int k = 0; k < n && x.planIs(h, 0) >= 0; k++) {
                b.append(' ').append(x.image(h, k, 0)).append(' ').append(x.image(h, k, 1));
                b.append(' ').append(x.tried(h, k, 0)).append(' ').append(x.tried(h, k, 2));
            }
        }
        return b.toString();
    }

    /** A call that is refused and changes nothing. */
    void refused(LongSupplier call, long due, String what) {
        String before = all();
        int tape = x.count(1);
        is(call.getAsLong(), due, what);
        is(x.count(1), tape, "the tape behind " + what);
        is(all(), before, "all behind " + what);
    }

    /** A call that is refused and changes nothing but the tape, which is empty then. */
    void refusedTold(LongSupplier call, long due, String what) {
        String before = all();
        is(call.getAsLong(), due, what);
        is(x.count(1), 0, "the tape behind " + what);
        is(all(), before, "all behind " + what);
    }

    /** What was told for a call that may be refused goes off the tape again. */
    int emptied(int answer) {
        x.check(0);
        return answer;
    }

    /** A COMMIT's text that is told with a FAULT. */
    void fault(String text, int due) {
        refusedTold(() -> commit(text, 0, 0), due, "commit " + text);
    }

    /** A PLAN's text that is told with a FAULT. */
    void planFault(String text, int due) {
        refusedTold(() -> plan(0, text), due, "plan " + text);
    }

    /** Numbers from the lowest to the greatest are taken; one less, one more, and those far off are NONE. */
    void takes(int lowest, int greatest, IntToLongFunction call, String what) {
        for (int v : new int[] {Integer.MIN_VALUE, -1000, lowest - 1, greatest + 1, 100000, Integer.MAX_VALUE}) {
            refused(() -> call.applyAsLong(v), -1, what + " of " + v);
        }
        is(call.applyAsLong(lowest) != -1, true, what + " of the lowest, " + lowest + ", is taken");
        is(call.applyAsLong(greatest) != -1, true, what + " of the greatest, " + greatest + ", is taken");
    }
}
