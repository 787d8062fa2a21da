/** The edges of promises 10 to 36: what is asked, SAVED, UNDONE and CHECKED. */
final class EdgesOfAsking extends Desk {
    private static final int MIN = Integer.MIN_VALUE;
    private static final int MAX = Integer.MAX_VALUE;

    /** A small store: 0 to 4 with a merge; BRANCH m of HISTORY 0 at the merge. */
    private void store() {
        is(commit(":+a/x=12;+a/y=345;+b/z=6", 1, 10), 0, "COMMIT 0");
        is(commit("0:+b/z=7", 2, 11), 1, "COMMIT 1");
        is(commit("1:+a/x=13:fix#0", 1, 12), 2, "COMMIT 2");
        is(commit("0:+a/w=9;*a/y>a/v", 3, 9), 3, "COMMIT 3");
        is(commit("2,3:^1a/w;^1a/v;-a/y:#1#2", 1, 20), 4, "COMMIT 4");
        branch(0, 'm', 4);
    }

    /** A store with all the COMMITS that there can be, each on the one before. */
    private void full() {
        for (int k = 0; k < 120; k++) {
            is(commit(k == 0 ? ":+a=1" : (k - 1) + ":", 0, k), k, "COMMIT " + k);
        }
        branch(0, 'a', 119);
    }

    // ---- 10, 11 ----

    @Says(promise = 10, value = "Of COMMIT k, what 0 PARENTS, 1 WHO, 2 HOUR, 3 FILES, 4 bytes of its MESSAGE, 5 GENERATION, 6 ANCESTORS, 7 CHILDREN (of all COMMITS), 8 PATHS UNLIKE in its TREE and that of its first PARENT (none: without FILES),")
    void commitIs() {
        store();
        commits("2:", "0,1,3:");
        int[][] due = {{0, 1, 10, 3, 0, 0, 0, 3, 3}, {1, 2, 11, 3, 0, 1, 1, 2, 1}, {1, 1, 12, 3, 5, 2, 2, 2, 1},
            {1, 3, 9, 4, 0, 1, 1, 2, 3}, {2, 1, 20, 4, 4, 3, 4, 0, 3}, {1, 0, 5, 3, 0, 3, 3, 0, 0}, {3, 0, 6, 3, 0, 2, 3, 0, 0}};
        for (int k = 0; k < due.length; k++) {
            for (int what = 0; what < 9; what++) {
                is(x.commitIs(k, what), due[k][what], "commitIs " + k + " " + what);
            }
        }
        is(x.commitIs(0, 9), -1, "what 9");
        x = new CarriedHistory();
        full();
        is(x.commitIs(119, 6), 119, "the most ANCESTORS");
        is(x.commitIs(119, 5), 119, "the greatest GENERATION");
        is(x.commitIs(118, 7), 1, "CHILDREN");
        x = new CarriedHistory();
        commits(":");
        for (int k = 1; k < 120; k++) {
            is(commit("0:", 0, k), k, "COMMIT " + k);
        }
        is(x.commitIs(0, 7), 119, "the most CHILDREN");
        String sixteen = ":+a=1;+b=1;+c=1;+d=1;+e=1;+f=1;+g=1;+h=1;+i=1;+j=1;+k=1;+l=1;+m=1;+n=1;+o=1;+p=1";
        x = new CarriedHistory();
        commits(sixteen, "0:*a>z/a;*b>z/b;*c>z/c;*d>z/d;*e>z/e;*f>z/f;*g>z/g;*h>z/h", "1:*i>z/i;*j>z/j;*k>z/k;*l>z/l;*m>z/m;*n>z/n;*o>z/o;*p>z/p");
        is(x.commitIs(0, 8), 16, "all NEW");
        is(x.commitIs(2, 8), 16, "eight GONE, eight NEW");
        commits("0,2:-a;-b;-c;-d;-e;-f;-g;-h;-i;-j;-k;-l;-m;-n;-o;-p;^1z");
        is(x.commitIs(3, 8), 32, "the most PATHS UNLIKE");
    }

    @Says(promise = 10, value = "10 + i PARENT i (0 to 2; not so many: -2);")
    void commitIsParent() {
        commits(":", ":+a=1", ":+b=1", "2:", "2,0:", "2,1,0:");
        int[][] due = {{-2, -2, -2}, {-2, -2, -2}, {-2, -2, -2}, {2, -2, -2}, {2, 0, -2}, {2, 1, 0}};
        for (int k = 0; k < 6; k++) {
            for (int i = 0; i < 3; i++) {
                is(x.commitIs(k, 10 + i), due[k][i], "PARENT " + i + " of COMMIT " + k);
            }
            is(x.commitIs(k, 9), -1, "what 9");
            is(x.commitIs(k, 13), -1, "what 13");
        }
    }

    @Says(promise = 10, value = "NONE: no such ones.")
    void commitIsNone() {
        is(x.commitIs(0, 0), -1, "without COMMITS");
        store();
        takes(0, 4, k -> x.commitIs(k, 0), "COMMIT");
        takes(0, 4, k -> x.commitIs(k, 12), "COMMIT");
        takes(0, 8, what -> x.commitIs(0, what), "what");
        takes(10, 12, what -> x.commitIs(0, what), "what");
        is(x.commitIs(5, 9), -1, "neither is there");
        x = new CarriedHistory();
        full();
        takes(0, 119, k -> x.commitIs(k, 0), "COMMIT of 120");
    }

    @Says(promise = 11, value = "COMMIT k as a text, byte at (0 to 599): PARENTS with a , between two, : , FILES as PATH=CONTENT with a ; between two, : , its MESSAGE;")
    void spelt() {
        store();
        is(spelt(0), ":a/x=12;a/y=345;b/z=6:", "without PARENTS and MESSAGE");
        is(spelt(4), "2,3:a/v=345;a/w=9;a/x=13;b/z=7:#1#2", "with all");
        commits(":", "::m", "0,1,2:", ":+a=000001;+b=000000;+c=10");
        is(spelt(5), "::", "without all");
        is(spelt(6), "::m", "a MESSAGE alone");
        is(spelt(7), "0,1,2:a/x=12;a/y=345;b/z=6:", "three PARENTS");
        is(spelt(8), ":a=000001;b=000000;c=10:", "CONTENTS as told");
        fill(118);
        commits(":+z/z=1:az09#", "118:");
        is(spelt(118), ":z/z=1:az09#", "COMMIT 118");
        is(spelt(119), "118:z/z=1:", "a PARENT of three digits");
        is(x.spelt(119, 0), '1', "byte 0");
        is(x.spelt(119, 9), ':', "the last byte");
    }

    @Says(promise = 11, value = "COMMIT k as a text, byte at (0 to 599): PARENTS with a , between two, : , FILES as PATH=CONTENT with a ; between two, : , its MESSAGE;")
    void theLongestText() {
        StringBuilder due = new StringBuilder("100,101,102:");
        for (int i = 0; i < 16; i++) {
            char name = (char) ('a' + i);
            is(commit((i == 0 ? "" : "" + (i - 1)) + ":+q/r/" + name + "=123456", 0, i), i, "COMMIT " + i);
            due.append(i == 0 ? "" : ";").append("x/x/x/x/r/").append(name).append("=123456");
        }
        commits("15:*q>x/x/x/x");
        fill(100);
        commits("16:", "100:", "101:", "100,101,102::a1a1a1a1a1a1");
        carry(103, ";word:a>abc;empty:0");
        is(x.image(0, 103, 0), 104, "the IMAGE");
        due.append(":abc1abc1abc1abc1abc1abc1");
        is(due.length(), 340, "bytes");
        is(spelt(104), due.toString(), "the longest");
        is(x.spelt(104, 339), '1', "its last byte");
        is(x.spelt(104, 340), -2, "behind it");
        is(x.spelt(104, 599), -2, "far behind it");
    }

    @Says(promise = 11, value = "-2: behind its end;")
    void speltEnds() {
        store();
        commits(":");
        is(x.spelt(4, 34), '2', "the last byte");
        is(x.spelt(4, 35), -2, "just behind it");
        is(x.spelt(4, 599), -2, "far behind it");
        is(x.spelt(5, 1), ':', "the last of two");
        is(x.spelt(5, 2), -2, "just behind them");
        is(x.spelt(5, 599), -2, "far behind them");
    }

    @Says(promise = 11, value = "NONE: no such ones.")
    void speltNone() {
        is(x.spelt(0, 0), -1, "without COMMITS");
        store();
        takes(0, 599, at -> x.spelt(4, at), "byte");
        takes(0, 4, k -> x.spelt(k, 0), "COMMIT");
        takes(0, 4, k -> x.spelt(k, 599), "COMMIT");
        is(x.spelt(5, 600), -1, "neither is there");
    }

    // ---- 12 ----

    @Says(promise = 12, value = "What is at a PATH (6 NAMES at most; by the first n bytes of the tape, 1 to 11; empty then) in COMMIT k,")
    void lookAtPaths() {
        commits(":+a/b/c=1", "0:*a>p/q/r/s", ":+a=1");
        is(look(1, "p/q/r/s/b/c", 0), 1, "six NAMES, eleven bytes");
        is(x.count(1), 0, "the tape is empty");
        is(look(1, "p/q/r/s/b", 0), 2, "five NAMES");
        is(look(2, "a", 0), 1, "one NAME, one byte");
        tell("a/b/c");
        is(x.look(0, 1, 0), 2, "the first byte alone");
        is(x.count(1), 0, "the tape is empty");
        tell("a/b/c");
        is(x.look(0, 3, 0), 2, "the first three bytes alone");
        tell("p/q/r/s/b/c/d");
        refused(() -> x.look(1, 12, 0), -1, "twelve bytes");
        refused(() -> x.look(1, 13, 0), -1, "seven NAMES");
        is(x.look(1, 11, 0), 1, "the first eleven bytes");
        tell("a");
        refused(() -> x.look(0, 0, 0), -1, "no byte");
        is(x.look(0, 1, 0), 2, "one byte");
    }

    @Says(promise = 12, value = "what 0: 0 nothing, 1 a FILE, 2 a FOLDER; 1 FILES there and below; 2: 1 a FOLDER that has FILES alone, no FOLDERS, in it, else 0; 3 how many FILES and FOLDERS stand in the FOLDER itself (none: 0);")
    void lookWhat() {
        commits(":+a/a=1;+a/b/c=1;+a/b/d=2;+a/b/e/f=2;+a/g=3;+b/a=1;+b/b=1;+c/a/b/c=1;+d=4", ":", "0:*c/a>z/z/z/z");
        String[] paths = {"a", "a/b", "a/b/e", "a/b/e/f", "b", "c", "c/a", "c/a/b", "d", "e", "d/a", "a/c", "b/c/d", "z/a"};
        int[][] due = {{2, 5, 0, 3}, {2, 3, 0, 3}, {2, 1, 1, 1}, {1, 1, 0, 0}, {2, 2, 1, 2}, {2, 1, 0, 1}, {2, 1, 0, 1}, {2, 1, 1, 1},
            {1, 1, 0, 0}, {0, 0, 0, 0}, {0, 0, 0, 0}, {0, 0, 0, 0}, {0, 0, 0, 0}, {0, 0, 0, 0}};
        for (int i = 0; i < paths.length; i++) {
            for (int what = 0; what < 4; what++) {
                is(look(0, paths[i], what), due[i][what], "look " + paths[i] + " " + what);
                is(look(1, paths[i], what), 0, "look without FILES " + paths[i] + " " + what);
            }
        }
        int[][] deep = {{2, 1, 0, 1}, {2, 1, 0, 1}, {2, 1, 1, 1}, {1, 1, 0, 0}};
        String[] below = {"z", "z/z/z/z", "z/z/z/z/b", "z/z/z/z/b/c"};
        for (int i = 0; i < 4; i++) {
            for (int what = 0; what < 4; what++) {
                is(look(2, below[i], what), deep[i][what], "look " + below[i] + " " + what);
            }
        }
        String all = ":+z/a=1;+z/b=1;+z/c=1;+z/d=1;+z/e=1;+z/f=1;+z/g=1;+z/h=1;+z/i=1;+z/j=1;+z/k=1;+z/l=1;+z/m=1;+z/n=1;+z/o=1;+z/p=1";
        commits(all);
        is(look(3, "z", 3), 16, "the most that can stand in a FOLDER");
        is(look(3, "z", 1), 16, "the most FILES");
        is(look(3, "z", 2), 1, "FILES alone");
        is(look(3, "z/p", 0), 1, "the last FILE");
        is(look(3, "z/q", 0), 0, "nothing behind it");
        is(look(3, "zz", 0), -1001, "a FAULT");
        commits(":+a/b/c=1;+a/d=2", ":+a/b=1;+a/d/c=2");
        is(look(4, "a", 2), 0, "the first one is a FOLDER");
        is(look(5, "a", 2), 0, "the last one is a FOLDER");
    }

    @Says(promise = 12, value = "a FAULT: 1 what can't stand there;")
    void lookFaults() {
        commits(":+a/b=1");
        String[] texts = {"/", "A", "1", "a/", "a//", "ab", "a/b/", "a/1", "a/b/c/d/e/", "a/b/c/d/e/1", "a.", "a b", "`", "{", "a/`",
            "a/bc", "a/b?", "a/b/c/d/ef", "a/b/c/d/e.", "z/yx"};
        int[] due = {0, 0, 0, 2, 2, 1, 4, 2, 10, 10, 1, 1, 0, 0, 2, 3, 3, 9, 9, 3};
        for (int i = 0; i < texts.length; i++) {
            for (int what = 0; what < 4; what++) {
                int its = what;
                String text = texts[i];
                refusedTold(() -> look(0, text, its), -1000 - due[i], "look " + text);
            }
        }
        for (char sign = 0; sign < 256; sign++) {
            int answer = look(0, "a/" + sign, 0);
            is(answer, sign < 'a' || sign > 'z' ? -1002 : sign == 'b' ? 1 : 0, "byte " + (int) sign + " for a NAME");
            answer = look(0, "a" + sign + "b", 0);
            is(answer, sign == '/' ? 1 : -1001, "byte " + (int) sign + " for a /");
        }
    }

    @Says(promise = 12, value = "NONE: no such ones, it has not so many (the tape stays).")
    void lookNone() {
        tell("a");
        refused(() -> x.look(0, 1, 0), -1, "without COMMITS");
        x.check(0);
        commits(":+a/b=1");
        takes(0, 0, k -> {
            tell("a/b");
            return emptied(x.look(k, 3, 0));
        }, "COMMIT");
        takes(0, 3, what -> {
            tell("a/b");
            return emptied(x.look(0, 3, what));
        }, "what");
        tell("a/b");
        for (int k : new int[] {MIN, -1, 1, MAX}) {
            refused(() -> x.look(k, 3, 0), -1, "COMMIT " + k);
        }
        for (int what : new int[] {MIN, -1, 4, MAX}) {
            refused(() -> x.look(0, 3, what), -1, "what " + what);
        }
        for (int n : new int[] {MIN, -1, 0, 12, 20, 21, MAX}) {
            refused(() -> x.look(0, n, 0), -1, "n " + n);
        }
        is(x.look(0, 3, 0), 1, "what was told stays");
        refused(() -> x.look(0, 1, 0), -1, "one more than none");
        tell("?");
        refused(() -> x.look(0, 1, 4), -1, "asked ahead of a FAULT");
    }

    // ---- 13 to 17 ----

    @Says(promise = 13, value = "PLAN p, what 0 from, 1 to, 2 keeps, 3 drops, 4 moves, 5 merges, 6 empty, 7 tags, 8 COMMITS MAPPED, 9 of these KEPT, 10 EMPTY, 11 SKIPPED, 12 without IMAGE, 13 LINES, 14 WHO that are skipped (bits), 15 since, 16 most, 17 swaps, 18 words, 19 grafts, 20 signs;")
    void planIs() {
        store();
        is(plan(1, "from:3;to:2"), 2, "the shortest");
        int[] plain = {3, 2, 0, 0, 0, 1, 2, 2, 0, 0, 0, 0, 0, 2, 0, 0, 6, 0, 0, 0, 0};
        for (int what = 0; what < 21; what++) {
            is(x.planIs(1, what), plain[what], "plain planIs " + what);
        }
        String lines = "from:0;to:1;keep:a;drop:b;drop:c;move:a>q;move:b>r;move:c>s;swap:1>2;swap:2>1;swap:3>1;swap:4>1;word:a>b;graft:1>.;graft:2>.";
        is(plan(1, lines + ";sign:1>2;sign:3>4;sign:5>6;skip:1;skip:9;skip:1;merges:3;empty:1;tags:0;since:12;most:4"), 26, "all words");
        int[] due = {0, 1, 1, 2, 3, 3, 1, 0, 0, 0, 0, 0, 0, 26, 514, 12, 4, 4, 1, 2, 3};
        for (int what = 0; what < 21; what++) {
            is(x.planIs(1, what), due[what], "planIs " + what);
        }
        is(plan(1, "from:0;to:1;keep:a;skip:3"), 4, "one that leaves out");
        is(x.run(1), 5, "run");
        int[] mapped = {5, 3, 1, 1, 0};
        for (int what = 8; what < 13; what++) {
            is(x.planIs(1, what), mapped[what - 8], "planIs " + what);
        }
        is(plan(1, "from:0;to:1;keep:a/w;skip:1"), 4, "one that leaves out more");
        is(x.run(1), 5, "run");
        int[] few = {5, 1, 4, 0, 3};
        for (int what = 8; what < 13; what++) {
            is(x.planIs(1, what), few[what - 8], "planIs " + what);
        }
        x = new CarriedHistory();
        full();
        carry(119, ";empty:0");
        is(x.planIs(0, 8), 120, "the most MAPPED");
        is(x.planIs(0, 9), 120, "the most KEPT");
        is(x.planIs(0, 12), 0, "none is without IMAGE, COMMIT 0 neither");
    }

    @Says(promise = 13, value = "8 COMMITS MAPPED, 9 of these KEPT, 10 EMPTY, 11 SKIPPED, 12 without IMAGE,")
    void planIsOfWhatIsMapped() {
        is(commit(":+a=1", 1, 1), 0, "COMMIT 0");
        is(commit(":+b=1", 2, 1), 1, "COMMIT 1");
        is(commit("0:+c=1", 1, 2), 2, "COMMIT 2");
        is(commit("2:+a=2", 2, 2), 3, "COMMIT 3");
        is(commit("3:", 1, 3), 4, "COMMIT 4");
        is(commit("4:+a=3", 1, 3), 5, "COMMIT 5");
        branch(0, 'b', 1);
        String[] lines = {"", ";drop:b", ";skip:1", ";skip:1;keep:a", ";keep:a;skip:2", ";skip:1;skip:2", ";keep:q", ";keep:a;empty:0"};
        int[][] due = {{5, 1, 0, 0}, {4, 2, 0, 1}, {2, 1, 3, 2}, {1, 2, 3, 3}, {3, 2, 1, 1}, {0, 0, 6, 6}, {0, 6, 0, 6}, {6, 0, 0, 0}};
        for (int i = 0; i < lines.length; i++) {
            carry(5, lines[i]);
            is(x.planIs(0, 8), 6, "MAPPED by " + lines[i]);
            for (int what = 9; what < 13; what++) {
                is(x.planIs(0, what), due[i][what - 9], "planIs " + what + " by " + lines[i]);
            }
            is(x.share(0), Double.doubleToRawLongBits(due[i][0] / 6.0), "share by " + lines[i]);
        }
    }

    @Says(promise = 13, value = "-2: none is told;")
    void planIsNotTold() {
        for (int p = 0; p < 4; p++) {
            for (int what = 0; what < 21; what++) {
                is(x.planIs(p, what), -2, "planIs " + p + " " + what);
            }
        }
        is(plan(2, "from:0;to:1"), 2, "plan");
        int[] due = {-2, -2, 0, -2};
        for (int p = 0; p < 4; p++) {
            is(x.planIs(p, 0), due[p], "PLAN " + p);
        }
    }

    @Says(promise = 13, value = "NONE: no such ones.")
    void planIsNone() {
        takes(0, 3, p -> x.planIs(p, 0), "PLAN, none of which is told");
        takes(0, 20, what -> x.planIs(2, what), "what, asked ahead of -2");
        is(plan(2, "from:0;to:1"), 2, "plan");
        takes(0, 3, p -> x.planIs(p, 0), "PLAN");
        takes(0, 20, what -> x.planIs(2, what), "what");
    }

    @Says(promise = 14, value = "Of COMMIT k by PLAN p, what 0 its IMAGE (none: -2), 1: 0 KEPT, 1 EMPTY, 2 SKIPPED;")
    void image() {
        store();
        is(plan(3, "from:0;to:1;keep:a;skip:3"), 4, "plan");
        is(x.run(3), 5, "run");
        int[][] due = {{5, 0}, {5, 1}, {6, 0}, {5, 2}, {7, 0}};
        for (int k = 0; k < 5; k++) {
            is(x.image(3, k, 0), due[k][0], "IMAGE of COMMIT " + k);
            is(x.image(3, k, 1), due[k][1], "what COMMIT " + k + " is");
        }
        is(plan(3, "from:0;to:1;keep:a/w;skip:1"), 4, "plan");
        is(x.run(3), 5, "run");
        int[][] other = {{-2, 1}, {-2, 1}, {-2, 1}, {8, 0}, {8, 1}};
        for (int k = 0; k < 5; k++) {
            is(x.image(3, k, 0), other[k][0], "IMAGE of COMMIT " + k);
            is(x.image(3, k, 1), other[k][1], "what COMMIT " + k + " is");
        }
        is(plan(3, "from:0;to:1;skip:1"), 3, "plan");
        is(x.run(3), 5, "run");
        is(x.image(3, 0, 0), -2, "SKIPPED without IMAGE");
        is(x.image(3, 0, 1), 2, "SKIPPED without IMAGE");
    }

    @Says(promise = 14, value = "-3: no such PLAN is told;")
    void imageOfNoPlan() {
        store();
        for (int p = 0; p < 4; p++) {
            for (int what = 0; what < 2; what++) {
                is(x.image(p, 4, what), -3, "PLAN " + p);
            }
        }
        is(plan(0, "from:0;to:1"), 2, "plan");
        is(x.run(0), 5, "run");
        is(x.image(1, 0, 0), -3, "PLAN 1");
        is(x.image(0, 0, 0), 0, "PLAN 0");
    }

    @Says(promise = 14, value = "-4: it is not MAPPED;")
    void imageNotMapped() {
        store();
        is(plan(0, "from:0;to:1"), 2, "plan");
        for (int k = 0; k < 5; k++) {
            is(x.image(0, k, 0), -4, "ahead of a RUN");
            is(x.image(0, k, 1), -4, "ahead of a RUN");
        }
        is(x.run(0), 5, "run");
        is(x.image(0, 4, 0), 4, "behind it");
        commits("4:");
        is(x.image(0, 5, 0), -4, "one told since");
        is(x.image(0, 5, 1), -4, "one told since");
        is(plan(0, "from:0;to:1"), 2, "told anew");
        is(x.image(0, 4, 0), -4, "nothing is MAPPED then");
    }

    @Says(promise = 14, value = "NONE: no such ones.")
    void imageNone() {
        is(x.image(0, 0, 0), -1, "without COMMITS, asked ahead of -3");
        store();
        is(x.image(0, 0, 2), -1, "what 2, asked ahead of -3");
        is(plan(0, "from:0;to:1"), 2, "plan");
        is(x.image(0, 0, 2), -1, "what 2, asked ahead of -4");
        is(x.run(0), 5, "run");
        takes(0, 3, p -> x.image(p, 0, 0), "PLAN");
        takes(0, 4, k -> x.image(0, k, 0), "COMMIT");
        takes(0, 4, k -> x.image(0, k, 1), "COMMIT");
        takes(0, 1, what -> x.image(0, 0, what), "what");
    }

    @Says(promise = 15, value = "TREE' of COMMIT k by PLAN p (MAPPED or not), what 0 FILES, 1 FILES TAKEN, 2 LOST, 3 the lowest COMMIT with that TREE (none: -2);")
    void tried() {
        store();
        commits(":+z=9", ":", "5:");
        is(plan(2, "from:0;to:1;keep:a;move:a/x>a/y"), 4, "plan");
        int[][] due = {{1, 2, 1, -2}, {1, 2, 1, -2}, {1, 2, 1, -2}, {3, 3, 0, -2}, {3, 3, 0, -2}, {0, 0, 0, 6}, {0, 0, 0, 6}, {0, 0, 0, 6}};
        for (int round = 0; round < 2; round++) {
            for (int k = 0; k < 8; k++) {
                for (int what = 0; what < 3; what++) {
                    is(x.tried(2, k, what), due[k][what], "tried " + k + " " + what);
                }
            }
            is(x.tried(2, 5, 3), 6, "the lowest without FILES");
            is(x.tried(2, 0, 3), round == 0 ? -2 : 8, "the lowest with that TREE");
            is(x.run(2) >= 0, true, "run");
            is(x.planIs(2, 8), 5, "not all are MAPPED");
        }
        is(plan(2, "from:0;to:1"), 2, "plan");
        is(x.tried(2, 7, 3), 5, "the lowest of two");
        is(x.tried(2, 4, 3), 4, "itself");
        is(x.tried(2, 0, 3), 0, "the lowest of all");
        commits(":+a=1;+b=1;+c=1;+d=1;+e=1;+f=1;+g=1;+h=1;+i=1;+j=1;+k=1;+l=1;+m=1;+n=1;+o=1;+p=1");
        int all = x.count(0) - 1;
        is(x.tried(2, all, 0), 16, "the most FILES");
        is(plan(2, "from:0;to:1;move:a>.;move:b>.;move:c>.;move:d>."), 6, "plan");
        is(x.tried(2, all, 2), 4, "LOST");
        is(x.tried(2, all, 1), 16, "TAKEN");
        is(x.tried(2, all, 0), 12, "FILES");
    }

    @Says(promise = 15, value = "-3: no such PLAN is told;")
    void triedOfNoPlan() {
        store();
        for (int p = 0; p < 4; p++) {
            for (int what = 0; what < 4; what++) {
                is(x.tried(p, 4, what), -3, "PLAN " + p);
            }
        }
        is(plan(0, "from:0;to:1"), 2, "plan");
        is(x.tried(1, 0, 0), -3, "PLAN 1");
        is(x.tried(0, 0, 0), 3, "PLAN 0");
    }

    @Says(promise = 15, value = "NONE: no such ones.")
    void triedNone() {
        is(x.tried(0, 0, 0), -1, "without COMMITS, asked ahead of -3");
        store();
        is(x.tried(0, 0, 4), -1, "what 4, asked ahead of -3");
        is(plan(0, "from:0;to:1"), 2, "plan");
        takes(0, 3, p -> x.tried(p, 0, 0), "PLAN");
        takes(0, 4, k -> x.tried(0, k, 0), "COMMIT");
        takes(0, 3, what -> x.tried(0, 0, what), "what");
    }

    @Says(promise = 16, value = "COMMITS KEPT through COMMITS MAPPED of PLAN p (also those to which REFS come no more) as the bits of a double (none MAPPED: of 0.0);")
    void share() {
        commits(":+a=1");
        for (int k = 1; k < 120; k++) {
            is(commit((k - 1) + ":", k < 77 ? 1 : 2, k), k, "COMMIT " + k);
        }
        is(plan(1, "from:0;to:1;empty:0;skip:2"), 4, "plan");
        is(x.share(1), Double.doubleToRawLongBits(0.0), "none MAPPED");
        for (int k : new int[] {0, 1, 2, 6, 40, 76, 77, 78, 90, 118, 119}) {
            branch(0, 'a', k);
            is(x.run(1) >= 0, true, "run");
            double due = k < 77 ? 1.0 : 77.0 / (k + 1);
            is(x.share(1), Double.doubleToRawLongBits(due), "share of " + (k + 1));
        }
        branch(0, 'a', 0);
        is(x.run(1), 0, "run");
        is(x.share(1), Double.doubleToRawLongBits(77.0 / 120.0), "REFS come to one alone");
        is(x.again(1), 0, "ANEW");
        is(x.share(1), Double.doubleToRawLongBits(1.0), "one alone");
        is(plan(1, "from:0;to:1;keep:q"), 3, "plan");
        is(x.run(1), 1, "run");
        is(x.share(1), Double.doubleToRawLongBits(0.0), "none KEPT");
        branch(0, 'a', 119);
        is(plan(1, "from:0;to:1"), 2, "plan");
        is(x.run(1), 120, "run");
        is(x.share(1), Double.doubleToRawLongBits(1.0 / 120.0), "one of 120");
    }

    @Says(promise = 16, value = "-3: no such PLAN is told;")
    void shareOfNoPlan() {
        for (int p = 0; p < 4; p++) {
            is(x.share(p), -3, "none is told");
        }
        is(plan(1, "from:0;to:1"), 2, "plan");
        is(x.share(1), 0, "PLAN 1");
        is(x.share(0), -3, "PLAN 0");
        is(x.share(2), -3, "PLAN 2");
    }

    @Says(promise = 16, value = "NONE: no such one.")
    void shareNone() {
        takes(0, 3, p -> x.share(p), "PLAN, none of which is told");
        for (int p = 0; p < 4; p++) {
            is(plan(p, "from:0;to:1"), 2, "plan");
        }
        takes(0, 3, p -> x.share(p), "PLAN");
    }

    @Says(promise = 17, value = "Of PLAN p, what 0 BROKEN, 1 TIED, 2 TWINS, 3 FILES LOST, those of all KEPT, 4 such KEPT with two or more in their FORE whose IMAGE has one PARENT or none, 5 COMMITS of the PLAN not MAPPED;")
    void sound() {
        commits(":+a=1;+b=2", "0:+c=3", "0:+d=4", "1,2:", "3:+e=5", "1,2,0:+f=1", ":+g=1", "0,6:+h=1");
        branch(0, 'a', 4);
        is(plan(1, "from:0;to:1;merges:3;empty:0;move:b>a"), 5, "plan");
        int[][] due = {{0, 0, 0, 0, 0, 5}, {2, 0, 0, 5, 1, 0}, {0, 0, 0, 2, 0, 0}};
        sound(1, due[0], "ahead of a RUN");
        is(x.run(1), 5, "run");
        sound(1, due[1], "behind it");
        branch(0, 'a', 1);
        sound(1, due[2], "over those to which REFS come");
        branch(0, 'a', 4);
        branch(0, 'b', 5);
        branch(0, 'c', 7);
        int[] more = {2, 0, 0, 5, 1, 3};
        sound(1, more, "with those that are not MAPPED");
        is(plan(1, "from:0;to:1;merges:0;empty:0;graft:7>0;graft:3>."), 6, "plan");
        is(x.run(1) > 0, true, "run");
        int[] none = {0, 0, 0, 0, 0, 0};
        sound(1, none, "by grafts none has two in its FORE");
        is(plan(1, "from:0;to:1;merges:2;keep:c;keep:f;keep:h;keep:d;drop:a"), 8, "plan");
        is(x.run(1) > 0, true, "run");
        is(x.image(1, 7, 1), 0, "KEPT");
        is(x.sound(1, 4), 1, "one with two in its FORE, whose IMAGE has none");
        is(plan(1, "from:0;to:1;move:b>a;drop:c;drop:d;drop:e;drop:f"), 7, "plan");
        is(x.run(1) > 0, true, "run");
        is(x.planIs(1, 9), 3, "KEPT");
        is(x.sound(1, 3), 2, "those of what is EMPTY do not count");
    }

    @Says(promise = 17, value = "3 FILES LOST, those of all KEPT,")
    void lostInAll() {
        commits(":+a=1;+b=2;+c=3", "0:+d=4;+z=1", "1:-a;-b;-c", "2:+a=1;+b=1;+c=1");
        branch(0, 'a', 3);
        is(plan(1, "from:0;to:1;move:a>z;move:b>z;move:c>z;move:d>z"), 6, "plan");
        int[] due = {2, 4, 1, 4};
        for (int k = 0; k < 4; k++) {
            is(x.tried(1, k, 2), due[k], "LOST of COMMIT " + k);
        }
        is(x.run(1), 4, "run");
        int[] kept = {0, 1, 0, 0};
        for (int k = 0; k < 4; k++) {
            is(x.image(1, k, 1), kept[k], "what COMMIT " + k + " is");
        }
        is(x.sound(1, 3), 7, "those of COMMITS 0, 2 and 3");
        is(plan(1, "from:0;to:1;empty:0;move:a>z;move:b>z;move:c>z;move:d>z"), 7, "plan");
        is(x.run(1), 4, "run");
        is(x.sound(1, 3), 11, "those of all");
    }

    private void sound(int p, int[] due, String when) {
        for (int what = 0; what < 6; what++) {
            is(x.sound(p, what), due[what], "sound " + what + " " + when);
        }
    }

    @Says(promise = 17, value = "-3: no such PLAN is told;")
    void soundOfNoPlan() {
        for (int what = 0; what < 6; what++) {
            is(x.sound(0, what), -3, "none is told");
            is(x.sound(3, what), -3, "none is told");
        }
        is(plan(2, "from:0;to:1"), 2, "plan");
        is(x.sound(1, 0), -3, "PLAN 1");
        is(x.sound(2, 0), 0, "PLAN 2");
    }

    @Says(promise = 17, value = "NONE: no such ones.")
    void soundNone() {
        is(x.sound(0, 6), -1, "what 6, asked ahead of -3");
        is(plan(2, "from:0;to:1"), 2, "plan");
        takes(0, 3, p -> x.sound(p, 0), "PLAN");
        takes(0, 5, what -> x.sound(2, what), "what");
    }

    // ---- 18 to 20 ----

    @Says(promise = 18, value = "REF i of HISTORY h (0 to 7), what 0 its kind, 1 its letter, 2 its COMMIT, 3 the PLAN that laid it (told since, or never laid: -2);")
    void refIs() {
        commits(":+a=1", "0:+b=1");
        tag(0, 'z', 0);
        branch(0, 'a', 1);
        for (int p = 0; p < 4; p++) {
            is(plan(p, "from:" + (p == 0 ? 1 : 0) + ";to:" + (p == 0 ? 2 : 3)), 2, "plan");
        }
        is(x.ref(1, 0, 3, 0), 1, "BRANCH d");
        is(x.run(0), 1, "run");
        is(x.run(3), 2, "run");
        int[][] due = {{0, 0, 0, 0, 1, -2}, {0, 1, 1, 25, 0, -2}, {2, 0, 0, 3, 0, 0}, {3, 0, 0, 0, 1, 3}, {3, 1, 1, 25, 0, 3}};
        for (int[] d : due) {
            for (int what = 0; what < 4; what++) {
                is(x.refIs(d[0], d[1], what), d[2 + what], "refIs " + d[0] + " " + d[1] + " " + what);
            }
        }
        is(x.ref(3, 0, 0, 1), 2, "told, though as it was");
        is(x.refIs(3, 0, 3), -2, "told since");
        is(x.refIs(3, 1, 3), 3, "the other one is laid");
        is(x.run(1), 2, "run of PLAN 1");
        is(x.refIs(3, 0, 3), 1, "laid in place of what was told");
        is(x.refIs(3, 1, 3), 1, "laid last by PLAN 1");
        for (int i = 0; i < 8; i++) {
            x.ref(0, 0, i, i % 2);
        }
        is(x.refIs(0, 7, 0), 1, "REF 7 is the TAG");
    }

    @Says(promise = 18, value = "-4: there are not so many;")
    void refIsNotSoMany() {
        commits(":");
        for (int i = 0; i < 8; i++) {
            is(x.refIs(0, i, 0), -4, "none");
        }
        for (int n = 0; n < 8; n++) {
            is(x.refIs(0, n, 2), -4, "REF " + n + " of " + n);
            is(x.ref(0, 0, n, 0), n + 1, "REF");
            is(x.refIs(0, n, 2), 0, "REF " + n + " of " + (n + 1));
            is(x.refIs(1, n, 2), -4, "REF " + n + " of another HISTORY");
        }
        is(x.ref(0, 0, 3, -1), 7, "a REF goes");
        is(x.refIs(0, 7, 0), -4, "REF 7 of 7");
    }

    @Says(promise = 18, value = "NONE: no such ones.")
    void refIsNone() {
        commits(":");
        is(x.refIs(1, 0, 4), -1, "what 4, asked ahead of -4");
        for (int i = 0; i < 8; i++) {
            x.ref(0, 0, i, 0);
        }
        takes(0, 3, h -> x.refIs(h, 0, 0), "HISTORY");
        takes(0, 7, i -> x.refIs(0, i, 0), "REF");
        takes(0, 7, i -> x.refIs(1, i, 0), "REF of none");
        takes(0, 3, what -> x.refIs(0, 0, what), "what");
    }

    @Says(promise = 19, value = "HISTORY h, what 0 REFS, 1 COMMITS, 2 of these without PARENTS, 3 with two or more, 4 without CHILDREN in it, 5 the greatest GENERATION (without COMMITS -2), 6 unlike TREES;")
    void historyIs() {
        commits(":+a=1", ":+b=1", "0,1:", "2,0,1:+c=1", "3:-c", "1:", "2:+q=1");
        int[] none = {0, 0, 0, 0, 0, -2, 0};
        history(3, none, "without REFS");
        branch(3, 'a', 0);
        int[] one = {1, 1, 1, 0, 1, 0, 1};
        history(3, one, "one COMMIT");
        tag(3, 'a', 0);
        int[] twice = {2, 1, 1, 0, 1, 0, 1};
        history(3, twice, "two REFS at one COMMIT");
        branch(3, 'b', 4);
        int[] more = {3, 5, 2, 2, 1, 3, 3};
        history(3, more, "five COMMITS");
        branch(3, 'c', 5);
        int[] most = {4, 6, 2, 2, 2, 3, 3};
        history(3, most, "six COMMITS");
        history(0, none, "another HISTORY");
        branch(2, 'c', 2);
        int[] part = {1, 3, 2, 1, 1, 1, 2};
        history(2, part, "CHILDREN outside of it do not count");
        x = new CarriedHistory();
        full();
        int[] all = {1, 120, 1, 0, 1, 119, 1};
        history(0, all, "all COMMITS");
    }

    private void history(int h, int[] due, String when) {
        for (int what = 0; what < 7; what++) {
            is(x.historyIs(h, what), due[what], "historyIs " + what + " of " + when);
        }
    }

    @Says(promise = 19, value = "NONE: no such ones.")
    void historyIsNone() {
        takes(0, 3, h -> x.historyIs(h, 0), "HISTORY");
        takes(0, 6, what -> x.historyIs(0, what), "what");
        store();
        takes(0, 3, h -> x.historyIs(h, 5), "HISTORY");
        takes(0, 6, what -> x.historyIs(0, what), "what");
    }

    @Says(promise = 20, value = "COMMIT i (0 to 119) of the LISTING of HISTORY h;")
    void listing() {
        store();
        int[] due = {4, 2, 1, 3, 0};
        for (int i = 0; i < due.length; i++) {
            is(x.listing(0, i), due[i], "listing " + i);
        }
        x = new CarriedHistory();
        full();
        for (int i = 0; i < 120; i++) {
            is(x.listing(0, i), 119 - i, "listing " + i);
        }
    }

    @Says(promise = 20, value = "-4: there are not so many;")
    void listingNotSoMany() {
        for (int h = 0; h < 4; h++) {
            is(x.listing(h, 0), -4, "none");
            is(x.listing(h, 119), -4, "none");
        }
        store();
        is(x.listing(0, 4), 0, "the last one");
        is(x.listing(0, 5), -4, "one more");
        is(x.listing(0, 119), -4, "far more");
        is(x.listing(1, 0), -4, "another HISTORY");
        x = new CarriedHistory();
        full();
        is(x.listing(0, 119), 0, "the last one");
        branch(0, 'a', 118);
        is(x.listing(0, 118), 0, "the last one");
        is(x.listing(0, 119), -4, "one more");
    }

    @Says(promise = 20, value = "NONE: no such ones.")
    void listingNone() {
        takes(0, 3, h -> x.listing(h, 0), "HISTORY without COMMITS");
        store();
        takes(0, 3, h -> x.listing(h, 0), "HISTORY");
        takes(0, 119, i -> x.listing(0, i), "COMMIT of the LISTING");
        takes(0, 119, i -> x.listing(1, i), "COMMIT of an empty LISTING");
    }

    // ---- 21 to 24 ----

    @Says(promise = 21, value = "COMMIT j is an ANCESTOR of COMMIT k: 1, 0;")
    void ancestor() {
        full();
        for (int j : new int[] {0, 1, 31, 32, 62, 63, 64, 65, 118, 119}) {
            for (int k : new int[] {0, 1, 31, 32, 62, 63, 64, 65, 118, 119}) {
                is(x.ancestor(j, k), j < k ? 1 : 0, "COMMIT " + j + " of COMMIT " + k);
            }
        }
    }

    @Says(promise = 21, value = "NONE: no such ones.")
    void ancestorNone() {
        is(x.ancestor(0, 0), -1, "without COMMITS");
        store();
        takes(0, 4, j -> x.ancestor(j, 0), "the one above");
        takes(0, 4, k -> x.ancestor(0, k), "the one below");
        is(x.ancestor(5, 5), -1, "neither is there");
        x = new CarriedHistory();
        full();
        takes(0, 119, j -> x.ancestor(j, 5), "the one above");
        takes(0, 119, k -> x.ancestor(5, k), "the one below");
    }

    @Says(promise = 22, value = "BASES of COMMITS j and k (or j itself), what 0 how many, 10 + i (0 to 119) the i-th, rising;")
    void base() {
        commits(":", ":+a=1", ":+b=1", "0,1,2:", "2,1,0:", "3:", "4:", "5,6:", "6,5:");
        int[] due = {0, 1, 2};
        for (int i = 0; i < 3; i++) {
            is(x.base(5, 6, 10 + i), due[i], "the " + i + "-th, rising");
            is(x.base(6, 5, 10 + i), due[i], "the " + i + "-th, rising");
        }
        is(x.base(5, 6, 0), 3, "how many");
        is(x.base(7, 8, 0), 2, "how many");
        is(x.base(7, 8, 11), 6, "the last one");
        is(x.base(0, 1, 0), 0, "none");
        for (int k = 0; k < 9; k++) {
            is(x.base(k, k, 0), 1, "with itself");
            is(x.base(k, k, 10), k, "itself");
        }
        x = new CarriedHistory();
        full();
        is(x.base(118, 119, 10), 118, "one above the other one");
        is(x.base(119, 64, 10), 64, "one above the other one");
        is(x.base(63, 119, 10), 63, "one above the other one");
        is(x.base(119, 119, 10), 119, "itself");
    }

    @Says(promise = 22, value = "-4: there are not so many;")
    void baseNotSoMany() {
        commits(":", ":+a=1", "0,1:", "1,0:");
        is(x.base(2, 3, 11), 1, "the last one");
        is(x.base(2, 3, 12), -4, "one more");
        is(x.base(2, 3, 129), -4, "far more");
        is(x.base(0, 1, 10), -4, "of none");
        is(x.base(0, 1, 129), -4, "of none");
        is(x.base(0, 0, 11), -4, "of one");
    }

    @Says(promise = 22, value = "NONE: no such ones.")
    void baseNone() {
        is(x.base(0, 0, 0), -1, "without COMMITS");
        commits(":", ":+a=1", "0,1:", "1,0:");
        for (int what : new int[] {MIN, -1, 1, 2, 8, 9, 130, 131, MAX}) {
            is(x.base(2, 3, what), -1, "what " + what);
            is(x.base(0, 1, what), -1, "what " + what);
        }
        takes(10, 129, what -> x.base(2, 3, what), "what");
        takes(0, 3, j -> x.base(j, 0, 0), "COMMIT");
        takes(0, 3, k -> x.base(0, k, 0), "COMMIT");
        takes(0, 3, k -> x.base(0, k, 129), "COMMIT");
    }

    @Says(promise = 23, value = "The fewest steps to a PARENT from COMMIT k to COMMIT j (itself: 0);")
    void way() {
        full();
        is(x.way(0, 119), 119, "the longest way");
        is(x.way(118, 119), 1, "one step");
        is(x.way(119, 119), 0, "itself");
        is(x.way(0, 0), 0, "itself");
        x = new CarriedHistory();
        commits(":", "0:", "1:", "2:", "3,0:", "4,2:", "0:+a=1", "6,5:");
        int[][] due = {{0, 4, 1}, {1, 4, 3}, {0, 5, 2}, {1, 5, 2}, {3, 5, 2}, {0, 7, 2}, {2, 7, 2}, {1, 7, 3}, {6, 7, 1}, {7, 7, 0}};
        for (int[] d : due) {
            is(x.way(d[0], d[1]), d[2], "way from " + d[1] + " to " + d[0]);
        }
        x = new CarriedHistory();
        commits(":", "0:", "0:+a=1", "2:", "3,1:", "1,3:");
        is(x.way(0, 4), 2, "one way is shorter by one step");
        is(x.way(0, 5), 2, "the other way round");
    }

    @Says(promise = 23, value = "-2: there is no way;")
    void noWay() {
        commits(":", "0:", "0:+a=1", "1,2:", ":+b=1");
        int[][] none = {{1, 0}, {3, 0}, {1, 2}, {2, 1}, {3, 2}, {4, 3}, {0, 4}, {4, 0}};
        for (int[] d : none) {
            is(x.way(d[0], d[1]), -2, "way from " + d[1] + " to " + d[0]);
        }
        x = new CarriedHistory();
        full();
        is(x.way(119, 118), -2, "down there is none");
        is(x.way(119, 0), -2, "down there is none");
    }

    @Says(promise = 23, value = "NONE: no such ones.")
    void wayNone() {
        is(x.way(0, 0), -1, "without COMMITS");
        store();
        takes(0, 4, j -> x.way(j, 4), "COMMIT j");
        takes(0, 4, k -> x.way(0, k), "COMMIT k");
        takes(0, 4, k -> x.way(4, k), "COMMIT k");
        x = new CarriedHistory();
        full();
        takes(0, 119, j -> x.way(j, 0), "COMMIT j");
        takes(0, 119, k -> x.way(0, k), "COMMIT k");
    }

    @Says(promise = 24, value = "Of a good and a bad COMMIT, what 0 how many are BETWEEN, 1 the one that is HALVING, 2 its WEIGHT (none BETWEEN: -2);")
    void halving() {
        full();
        int[][] due = {{0, 119, 119, 59, 59}, {118, 119, 1, 119, 1}, {117, 119, 2, 118, 1}, {119, 119, 0, -2, -2}, {119, 0, 0, -2, -2},
            {0, 0, 0, -2, -2}, {0, 2, 2, 1, 1}, {0, 3, 3, 1, 1}, {63, 65, 2, 64, 1}, {9, 119, 110, 64, 55}};
        for (int[] d : due) {
            for (int what = 0; what < 3; what++) {
                is(x.halving(d[0], d[1], what), d[2 + what], "halving " + d[0] + " " + d[1] + " " + what);
            }
        }
        x = new CarriedHistory();
        commits(":", ":+a=1");
        is(x.halving(0, 1, 0), 1, "one without a way to the good one");
        is(x.halving(0, 1, 1), 1, "it is HALVING");
        is(x.halving(0, 1, 2), 1, "its WEIGHT");
    }

    @Says(promise = 24, value = "NONE: no such ones.")
    void halvingNone() {
        is(x.halving(0, 0, 0), -1, "without COMMITS");
        commits(":", ":+a=1");
        takes(0, 1, good -> x.halving(good, 0, 0), "the good one");
        takes(0, 1, bad -> x.halving(1, bad, 0), "the bad one");
        x = new CarriedHistory();
        full();
        takes(0, 119, good -> x.halving(good, 119, 0), "the good one");
        takes(0, 119, bad -> x.halving(0, bad, 0), "the bad one");
        takes(0, 2, what -> x.halving(0, 119, what), "what");
        takes(0, 2, what -> x.halving(119, 0, what), "what of none BETWEEN");
    }

    // ---- 25 to 28 ----

    @Says(promise = 25, value = "From the TREE of COMMIT j to that of k, what 0 GONE, 1 NEW, 2 CHANGED, 3 pairs RENAMED;")
    void diff() {
        commits(":+a=1;+b=2;+c=345", "0:-a;+b=3;+d=1;+e=345;-c;+f=9", ":");
        int[][] due = {{0, 1, 2, 3, 1, 2}, {1, 0, 3, 2, 1, 2}, {0, 0, 0, 0, 0, 0}, {0, 2, 3, 0, 0, 0}, {2, 0, 0, 3, 0, 0}, {2, 2, 0, 0, 0, 0}};
        for (int[] d : due) {
            for (int what = 0; what < 4; what++) {
                is(x.diff(d[0], d[1], what), d[2 + what], "diff " + d[0] + " " + d[1] + " " + what);
            }
        }
        String all = ":+a=1;+b=1;+c=1;+d=1;+e=1;+f=1;+g=1;+h=1;+i=1;+j=1;+k=1;+l=1;+m=1;+n=1;+o=1;+p=1";
        commits(all, all.replace("=1", "=2"), "3:*a>z/a;*b>z/b;*c>z/c;*d>z/d;*e>z/e;*f>z/f;*g>z/g;*h>z/h", "5:*i>z/i;*j>z/j;*k>z/k;*l>z/l;*m>z/m;*n>z/n;*o>z/o;*p>z/p");
        is(x.diff(3, 4, 2), 16, "the most CHANGED");
        is(x.diff(3, 6, 0), 16, "the most GONE");
        is(x.diff(3, 6, 1), 16, "the most NEW");
        is(x.diff(3, 6, 3), 16, "the most RENAMED");
        for (int what = 0; what < 4; what++) {
            is(x.diff(6, 3, what), what == 2 ? 0 : 16, "the other way round");
            is(x.diff(5, 3, what), what == 2 ? 0 : 8, "half of them");
            is(x.diff(3, 5, what), what == 2 ? 0 : 8, "half of them, the other way round");
        }
        is(x.diff(4, 6, 3), 0, "none RENAMED");
    }

    @Says(promise = 25, value = "NONE: no such ones.")
    void diffNone() {
        is(x.diff(0, 0, 0), -1, "without COMMITS");
        store();
        takes(0, 4, j -> x.diff(j, 0, 0), "COMMIT j");
        takes(0, 4, k -> x.diff(0, k, 0), "COMMIT k");
        takes(0, 4, k -> x.diff(0, k, 3), "COMMIT k");
        takes(0, 3, what -> x.diff(0, 1, what), "what");
    }

    @Says(promise = 26, value = "The i-th pair RENAMED (0 to 15, as they were found) from COMMIT j to k, what 0 the FILE in j, 1 the FILE in k, 2 the bits of their LIKENESS, 3 that in hundredths;")
    void renamed() {
        commits(":+a=12345;+b=12345;+c=123;+d=77", ":+m=123456;+n=12345;+o=99999;+p=12;+q=1");
        float[] likeness = {1f, 10f / 11f, 4f / 5f};
        int[][] due = {{0, 1, 100}, {1, 0, 90}, {2, 3, 80}};
        for (int i = 0; i < 3; i++) {
            is(x.renamed(0, 1, i, 0), due[i][0], "the FILE in j of pair " + i);
            is(x.renamed(0, 1, i, 1), due[i][1], "the FILE in k of pair " + i);
            is(x.renamed(0, 1, i, 2), Float.floatToRawIntBits(likeness[i]), "bits of pair " + i);
            is(x.renamed(0, 1, i, 3), due[i][2], "hundredths of pair " + i);
            is(x.renamed(1, 0, i, 0), due[i][1], "the other way round");
        }
    }

    @Says(promise = 26, value = "-4: there are not so many;")
    void renamedNotSoMany() {
        commits(":+a=12345;+b=12345;+c=123;+d=77", ":+m=123456;+n=12345;+o=99999;+p=12;+q=1", ":");
        for (int what = 0; what < 4; what++) {
            is(x.renamed(0, 1, 2, what) >= 0, true, "the last pair");
            is(x.renamed(0, 1, 3, what), -4, "one more");
            is(x.renamed(0, 1, 15, what), -4, "far more");
            is(x.renamed(0, 0, 0, what), -4, "of none");
            is(x.renamed(0, 2, 0, what), -4, "of none");
            is(x.renamed(2, 0, 15, what), -4, "of none");
        }
    }

    @Says(promise = 26, value = "NONE: no such ones.")
    void renamedNone() {
        is(x.renamed(0, 0, 0, 0), -1, "without COMMITS");
        commits(":+a=1", ":+b=1", ":");
        takes(0, 2, j -> x.renamed(j, 1, 0, 0), "COMMIT j");
        takes(0, 2, k -> x.renamed(0, k, 0, 0), "COMMIT k");
        takes(0, 15, i -> x.renamed(0, 1, i, 0), "pair");
        takes(0, 15, i -> x.renamed(0, 0, i, 0), "pair of none");
        takes(0, 3, what -> x.renamed(0, 1, 0, what), "what");
        takes(0, 3, what -> x.renamed(0, 0, 0, what), "what of none");
    }

    @Says(promise = 27, value = "LIKENESS of the CONTENTS of FILE i of COMMIT j and FILE m of COMMIT k, what 0 its bits, 1 in hundredths;")
    void likeness() {
        commits(":+a=123456;+b=1", ":+a=13;+b=7;+c=1", ":", ":+a=1;+b=1;+c=1;+d=1;+e=1;+f=1;+g=1;+h=1;+i=1;+j=1;+k=1;+l=1;+m=1;+n=1;+o=1;+p=12");
        int[][] due = {{0, 0, 4, 8}, {0, 1, 0, 7}, {0, 2, 2, 7}, {1, 0, 2, 3}, {1, 1, 0, 2}, {1, 2, 2, 2}};
        for (int[] d : due) {
            float f = (float) d[2] / (float) d[3];
            is(x.likeness(0, d[0], 1, d[1], 0), Float.floatToRawIntBits(f), "bits of " + d[0] + " and " + d[1]);
            is(x.likeness(0, d[0], 1, d[1], 1), (int) (100f * f), "hundredths of " + d[0] + " and " + d[1]);
        }
        is(x.likeness(0, 1, 1, 2, 0), 0x3f800000, "bits of 1");
        is(x.likeness(0, 1, 1, 1, 0), 0, "bits of 0");
        is(x.likeness(0, 0, 1, 0, 0), 0x3f000000, "bits of a half");
        is(x.likeness(3, 15, 3, 0, 1), 66, "FILE 15");
        is(x.likeness(3, 0, 3, 15, 1), 66, "FILE 15");
    }

    @Says(promise = 27, value = "-4: there are not so many FILES;")
    void likenessNotSoMany() {
        commits(":+a=123456;+b=1", ":+a=13;+b=7;+c=1", ":");
        is(x.likeness(0, 1, 1, 2, 1), 100, "the last ones");
        is(x.likeness(0, 2, 1, 0, 0), -4, "one more than there are");
        is(x.likeness(0, 0, 1, 3, 0), -4, "one more than there are");
        is(x.likeness(2, 0, 0, 0, 0), -4, "of none");
        is(x.likeness(0, 0, 2, 0, 1), -4, "of none");
        is(x.likeness(0, 15, 1, 15, 0), -4, "far more");
    }

    @Says(promise = 27, value = "NONE: no such ones (FILES 0 to 15).")
    void likenessNone() {
        is(x.likeness(0, 0, 0, 0, 0), -1, "without COMMITS");
        commits(":+a=1", ":+b=1", ":");
        takes(0, 2, j -> x.likeness(j, 0, 1, 0, 0), "COMMIT j");
        takes(0, 2, k -> x.likeness(0, 0, k, 0, 0), "COMMIT k");
        takes(0, 15, i -> x.likeness(0, i, 1, 0, 0), "FILE i");
        takes(0, 15, m -> x.likeness(0, 0, 1, m, 0), "FILE m");
        takes(0, 1, what -> x.likeness(0, 0, 1, 0, what), "what");
        takes(0, 1, what -> x.likeness(2, 0, 2, 0, what), "what of none");
    }

    @Says(promise = 28, value = "ORIGIN of FILE i (0 to 15) of COMMIT k, what 0 the COMMIT, 1 the FILE there, 2 at how many steps its CONTENT was unlike, 3 how many steps were RENAMED ones, 4 the bits of what it is WORN by;")
    void origin() {
        commits(":+a=1234;+b=5", "0:+a=1235", "1:*a>c", "2:+c=1255;*b>a", ":", "3,4:");
        long[][] due = {{5, 0, 0, 1, 0, 1, Float.floatToRawIntBits(1f)}, {5, 1, 0, 0, 2, 1, Float.floatToRawIntBits(6f / 8f * (6f / 8f))},
            {0, 1, 0, 1, 0, 0, Float.floatToRawIntBits(1f)}, {1, 0, 0, 0, 1, 0, Float.floatToRawIntBits(6f / 8f)}};
        for (long[] d : due) {
            for (int what = 0; what < 5; what++) {
                is(x.origin((int) d[0], (int) d[1], what), d[2 + what], "origin " + d[0] + " " + d[1] + " " + what);
            }
        }
    }

    @Says(promise = 28, value = "-4: there are not so many FILES;")
    void originNotSoMany() {
        commits(":+a=1234;+b=5", "0:", ":");
        for (int what = 0; what < 5; what++) {
            is(x.origin(1, 1, what) >= 0, true, "the last one");
            is(x.origin(1, 2, what), -4, "one more than there are");
            is(x.origin(1, 15, what), -4, "far more");
            is(x.origin(2, 0, what), -4, "of none");
            is(x.origin(2, 15, what), -4, "of none");
        }
    }

    @Says(promise = 28, value = "NONE: no such ones.")
    void originNone() {
        is(x.origin(0, 0, 0), -1, "without COMMITS");
        commits(":+a=1234;+b=5", "0:", ":");
        takes(0, 2, k -> x.origin(k, 0, 0), "COMMIT");
        takes(0, 15, i -> x.origin(1, i, 0), "FILE");
        takes(0, 15, i -> x.origin(2, i, 0), "FILE of none");
        takes(0, 4, what -> x.origin(1, 0, what), "what");
        takes(0, 4, what -> x.origin(2, 0, what), "what of none");
    }

    @Says(promise = 28, value = "2 at how many steps its CONTENT was unlike, 3 how many steps were RENAMED ones, 4 the bits of what it is WORN by;")
    void originOfManySteps() {
        for (int k = 0; k < 120; k++) {
            String edit = k % 2 == 0 ? ":*b>a;+a=" : ":*a>b;+b=";
            is(commit(k == 0 ? ":+a=123456" : (k - 1) + edit + (k % 3 == 0 ? "123456" : "123457"), 0, 0), k, "COMMIT " + k);
        }
        float worn = 1f;
        int unlike = 0;
        for (int k = 1; k < 120; k++) {
            boolean isUnlike = k % 3 != 2;
            unlike += isUnlike ? 1 : 0;
            worn = isUnlike ? worn * (10f / 12f) : worn;
            is(x.origin(k, 0, 0), 0, "the COMMIT");
            is(x.origin(k, 0, 2), unlike, "unlike at " + k);
            is(x.origin(k, 0, 3), k, "RENAMED at " + k);
        }
        is(x.origin(119, 0, 2), 79, "unlike steps of 119");
        is(x.origin(119, 0, 4), Float.floatToRawIntBits(worn), "WORN by 79 steps");
    }

    @Says(promise = 28, value = "4 the bits of what it is WORN by;")
    void wornOut() {
        String[] contents = {"1", "234561"};
        float worn = 1f;
        boolean isBelow = false;
        for (int k = 0; k < 120; k++) {
            is(commit((k == 0 ? "" : "" + (k - 1)) + ":+a=" + contents[k % 2], 0, 0), k, "COMMIT " + k);
            is(x.origin(k, 0, 4), Float.floatToRawIntBits(worn), "WORN at " + k);
            isBelow |= worn > 0f && worn < Float.MIN_NORMAL;
            worn = worn * (2f / 7f);
        }
        is(isBelow, true, "it came to where floats are smallest");
        is(x.origin(119, 0, 4), 0, "in the end it is 0");
        is(x.origin(119, 0, 2), 119, "unlike at each step");
    }

    // ---- 29 to 32 ----

    @Says(promise = 29, value = "How many COMMITS of HISTORY h TOUCH a PATH (6 NAMES at most; by the first n bytes of the tape, 1 to 11; empty then);")
    void touches() {
        store();
        String[] paths = {"a", "a/x", "a/y", "b", "b/z", "q", "a/x/x", "a/v"};
        int[] due = {4, 2, 2, 2, 2, 0, 0, 1};
        for (int i = 0; i < paths.length; i++) {
            is(touches(0, paths[i]), due[i], "touches " + paths[i]);
            is(x.count(1), 0, "the tape is empty");
            is(touches(3, paths[i]), 0, "of a HISTORY without COMMITS");
        }
        commits("4:*a>p/q/r/s", "5:+y/b/c=3;*y>p/q/r/t");
        branch(1, 'a', 6);
        is(touches(1, "p/q/r/s/v"), 1, "five NAMES");
        is(touches(1, "p/q/r/t/b/c"), 1, "six NAMES, eleven bytes");
        is(touches(1, "p/q/r"), 2, "a FOLDER");
        tell("a/x/y");
        is(x.touches(0, 1), 4, "the first byte alone");
        is(x.count(1), 0, "the tape is empty");
        tell("a/b/c/d/e/f/g");
        refused(() -> x.touches(0, 12), -1, "twelve bytes");
        refused(() -> x.touches(0, 13), -1, "seven NAMES");
        is(x.touches(0, 11), 0, "eleven bytes");
        x = new CarriedHistory();
        for (int k = 0; k < 120; k++) {
            is(commit((k == 0 ? "" : "" + (k - 1)) + ":+a=" + k, 0, 0), k, "COMMIT " + k);
        }
        branch(0, 'a', 119);
        is(touches(0, "a"), 120, "the most");
        x = new CarriedHistory();
        String all = ":+a=1;+b=1;+c=1;+d=1;+e=1;+f=1;+g=1;+h=1;+i=1;+j=1;+k=1;+l=1;+m=1;+n=1;+o=1;+p=1";
        commits(all, "0:+p=2", "1:+a=2", "0,1:+a=3");
        branch(0, 'a', 2);
        branch(0, 'b', 3);
        is(touches(0, "a"), 3, "the first of sixteen FILES");
        is(touches(0, "p"), 2, "the last of sixteen FILES");
        is(touches(0, "q"), 0, "none of sixteen FILES");
    }

    @Says(promise = 29, value = "a FAULT: 1 what can't stand there;")
    void touchesFaults() {
        store();
        String[] texts = {"/", "A", "1", "a/", "a//", "ab", "a/b/", "a/1", "a/b/c/d/e/", "a/b/c/d/e/1", "a.", "`", "{",
            "a/bc", "a/b?", "a/b/c/d/ef", "a/b/c/d/e.", "z/yx"};
        int[] due = {0, 0, 0, 2, 2, 1, 4, 2, 10, 10, 1, 0, 0, 3, 3, 9, 9, 3};
        for (int i = 0; i < texts.length; i++) {
            String text = texts[i];
            refusedTold(() -> touches(0, text), -1000 - due[i], "touches " + text);
            refusedTold(() -> touches(3, text), -1000 - due[i], "touches, without COMMITS, " + text);
        }
        for (char sign = 0; sign < 256; sign++) {
            int answer = touches(0, "a/" + sign);
            is(answer < 0 ? answer : 0, sign < 'a' || sign > 'z' ? -1002 : 0, "byte " + (int) sign + " for a NAME");
            answer = touches(0, "a" + sign + "x");
            is(answer, sign == '/' ? 2 : -1001, "byte " + (int) sign + " for a /");
        }
    }

    @Says(promise = 29, value = "NONE: no such ones, it has not so many (the tape stays).")
    void touchesNone() {
        store();
        takes(0, 3, h -> {
            tell("a");
            return emptied(x.touches(h, 1));
        }, "HISTORY");
        tell("a");
        for (int h : new int[] {MIN, -1, 4, MAX}) {
            refused(() -> x.touches(h, 1), -1, "HISTORY " + h);
        }
        for (int n : new int[] {MIN, -1, 0, 12, 20, 21, MAX}) {
            refused(() -> x.touches(0, n), -1, "n " + n);
        }
        is(x.touches(0, 1), 4, "what was told stays");
        refused(() -> x.touches(0, 1), -1, "one more than none");
        tell("?");
        refused(() -> x.touches(4, 1), -1, "asked ahead of a FAULT");
        is(x.touches(3, 1), -1000, "what was told stays");
    }

    @Says(promise = 30, value = "COMMITS of HISTORIES h and g (or h itself), what 0 in h alone, 1 in both, 2 in g alone, 3 REFS (kind and letter) of one alone, or at unlike COMMITS;")
    void apart() {
        commits(":", "0:", "1:", "0:+a=1", ":+b=1");
        apart(0, 3, new int[] {0, 0, 0, 0});
        branch(0, 'a', 2);
        apart(0, 3, new int[] {3, 0, 0, 1});
        apart(3, 0, new int[] {0, 0, 3, 1});
        branch(3, 'a', 3);
        apart(0, 3, new int[] {2, 1, 1, 1});
        tag(3, 'a', 2);
        apart(0, 3, new int[] {0, 3, 1, 2});
        branch(3, 'a', 2);
        apart(0, 3, new int[] {0, 3, 0, 1});
        tag(0, 'a', 2);
        apart(0, 3, new int[] {0, 3, 0, 0});
        tag(0, 'b', 4);
        branch(3, 'b', 4);
        apart(0, 3, new int[] {0, 4, 0, 2});
        apart(0, 0, new int[] {0, 4, 0, 0});
        apart(1, 1, new int[] {0, 0, 0, 0});
        for (int i = 0; i < 8; i++) {
            x.ref(1, 0, i, 0);
            x.ref(2, 1, i, 0);
        }
        apart(1, 2, new int[] {0, 1, 0, 16});
    }

    @Says(promise = 30, value = "NONE: no such ones.")
    void apartNone() {
        takes(0, 3, h -> x.apart(h, 0, 0), "HISTORY h without COMMITS");
        store();
        takes(0, 3, h -> x.apart(h, 0, 0), "HISTORY h");
        takes(0, 3, g -> x.apart(0, g, 0), "HISTORY g");
        takes(0, 3, g -> x.apart(0, g, 3), "HISTORY g");
        takes(0, 3, what -> x.apart(0, 1, what), "what");
    }

    private void apart(int h, int g, int[] due) {
        for (int what = 0; what < 4; what++) {
            is(x.apart(h, g, what), due[what], "apart " + h + " " + g + " " + what + " of " + refs(h) + ", " + refs(g));
        }
    }

    @Says(promise = 31, value = "The lowest COMMIT of HISTORY h, not k, with a CHANGE as that of COMMIT k;")
    void picked() {
        commits(":+a=1", "0:+b=1", "1:-b", "2:+b=1", "3:-b", "4:+b=1", "5:-b", "0:");
        branch(0, 'a', 6);
        int[] due = {-2, 3, 4, 1, 2, 1, 2, -2};
        for (int k = 0; k < due.length; k++) {
            is(x.picked(0, k), due[k], "picked " + k);
        }
        branch(1, 'a', 1);
        is(x.picked(1, 1), -2, "not k itself");
        is(x.picked(1, 3), 1, "k is not of the HISTORY");
        commits(":+a=1");
        is(x.picked(1, 8), 0, "the lowest of all");
    }

    @Says(promise = 31, value = "-2: there is none;")
    void pickedNone() {
        commits(":+a=1", "0:+b=1", "1:-b", "2:+b=1", ":+b=1", "0:");
        for (int h = 0; h < 4; h++) {
            is(x.picked(h, 1), -2, "of a HISTORY without COMMITS");
        }
        branch(1, 'a', 1);
        is(x.picked(1, 2), -2, "none has that CHANGE");
        is(x.picked(1, 1), -2, "k alone has it");
        is(x.picked(1, 5), -2, "none changes nothing");
        branch(3, 'a', 0);
        is(x.picked(3, 0), -2, "k alone is there");
        branch(2, 'a', 3);
        is(x.picked(2, 3), 1, "there is one");
    }

    @Says(promise = 31, value = "NONE: no such ones.")
    void pickedNoSuchOnes() {
        is(x.picked(0, 0), -1, "without COMMITS");
        store();
        takes(0, 3, h -> x.picked(h, 0), "HISTORY");
        takes(0, 4, k -> x.picked(0, k), "COMMIT");
        takes(0, 4, k -> x.picked(3, k), "COMMIT, of a HISTORY without COMMITS");
    }

    @Says(promise = 32, value = "COMMIT i (0 to 119) of THE LINE of COMMIT k;")
    void line() {
        store();
        int[] due = {4, 2, 1, 0};
        for (int i = 0; i < due.length; i++) {
            is(x.line(4, i), due[i], "line " + i);
        }
        is(x.line(0, 0), 0, "itself alone");
        x = new CarriedHistory();
        full();
        for (int i = 0; i < 120; i++) {
            is(x.line(119, i), 119 - i, "line " + i + " of the longest");
        }
    }

    @Says(promise = 32, value = "-4: there are not so many;")
    void lineNotSoMany() {
        store();
        is(x.line(4, 3), 0, "the last one");
        is(x.line(4, 4), -4, "one more");
        is(x.line(4, 119), -4, "far more");
        is(x.line(0, 1), -4, "one more");
        is(x.line(0, 119), -4, "far more");
        x = new CarriedHistory();
        full();
        is(x.line(118, 118), 0, "the last one");
        is(x.line(118, 119), -4, "one more");
    }

    @Says(promise = 32, value = "NONE: no such ones.")
    void lineNone() {
        is(x.line(0, 0), -1, "without COMMITS");
        store();
        takes(0, 119, i -> x.line(4, i), "COMMIT of the LINE");
        takes(0, 4, k -> x.line(k, 0), "COMMIT");
        takes(0, 4, k -> x.line(k, 119), "COMMIT");
        x = new CarriedHistory();
        full();
        takes(0, 119, k -> x.line(k, 0), "COMMIT");
        takes(0, 119, i -> x.line(119, i), "COMMIT of the LINE");
    }

    // ---- 33 to 36 ----

    @Says(promise = 33, value = "SAVED: how many COMMITS.")
    void keep() {
        is(x.keep(), 0, "none");
        for (int k = 0; k < 120; k++) {
            is(commit(":", 0, k), k, "COMMIT " + k);
            is(x.keep(), k + 1, "keep");
        }
        tell("abc");
        is(x.keep(), 120, "all");
        is(x.count(1), 20, "the tape stays");
        is(commit(":", 0, 0) < 0, true, "a FAULT");
        is(x.keep(), 120, "all");
    }

    @Says(promise = 34, value = "UNDONE: true;")
    void undo() {
        commits(":+a=1");
        branch(0, 'a', 0);
        is(plan(0, "from:0;to:1"), 2, "plan");
        is(x.run(0), 1, "run");
        String before = all();
        is(x.keep(), 1, "keep");
        is(x.undo(), true, "at once");
        is(all(), before, "all");
        fill(120);
        tell("abc");
        is(x.undo(), true, "from as many as may be");
        is(all(), before, "all");
        is(x.count(1), 20, "the tape stays");
        is(x.undo(), true, "once more");
        x = new CarriedHistory();
        is(x.keep(), 0, "keep of nothing");
        full();
        is(plan(0, "from:0;to:1"), 2, "plan");
        is(x.run(0), 120, "run");
        is(x.undo(), true, "back to nothing");
        is(all(), new EdgesOfAsking().all(), "as a new object");
        commits(":+q=1");
        is(spelt(0), ":q=1:", "what was there is gone");
        x = new CarriedHistory();
        full();
        is(x.keep(), 120, "keep of as many as may be");
        before = all();
        branch(0, 'b', 3);
        is(x.undo(), true, "undo");
        is(all(), before, "all");
    }

    @Says(promise = 34, value = "false: nothing was SAVED.")
    void undoOfNothing() {
        refused(() -> x.undo() ? 1 : 0, 0, "at first");
        commits(":+a=1");
        branch(0, 'a', 0);
        is(plan(0, "from:0;to:1"), 2, "plan");
        is(x.run(0), 1, "run");
        tell("abc");
        refused(() -> x.undo() ? 1 : 0, 0, "with much that could be UNDONE");
        is(x.keep(), 1, "keep");
        is(x.undo(), true, "something was SAVED");
        x = new CarriedHistory();
        is(x.keep(), 0, "keep of nothing");
        is(x.undo(), true, "nothing, but SAVED");
    }

    @Says(promise = 35, value = "CHECK by the first n bytes of the tape (0 to 120; empty then; COMMITS that are not there 255): NONE: right; else the first that is not so;")
    void check() {
        commits(":+a=1", ":", "0:+b=1;+c=1");
        check(3, "\1\0\3", -1);
        check(0, "\7", -1);
        check(1, "\1\7\7", -1);
        check(1, "\2\0\3", 0);
        check(3, "\1\0\2", 2);
        check(3, "\0\1\2", 0);
        check(4, "\1\0\3\u00ff", -1);
        check(4, "\1\0\3\u00fe", 3);
        check(4, "\1\0\3\0", 3);
        check(3, "\1\0\u00ff", 2);
        check(3, "\u00ff\0\3", 0);
        check(20, "\1\0\3" + "\u00ff".repeat(17), -1);
        check(120, "\1\0\3" + "\u00ff".repeat(117), -1);
        check(120, "\1\0\3" + "\u00ff".repeat(116) + "\0", 119);
        check(120, "\1\0\3" + "\u00ff".repeat(116) + "\0\0", 119);
        check(120, "\1\0\3" + "\u00ff".repeat(117) + "\0", -1);
        is(x.check(0), -1, "nothing is asked, without a tape");
        x = new CarriedHistory();
        check(2, "\u00ff\u00ff", -1);
        check(2, "\0\u00ff", 0);
        full();
        check(120, "\1".repeat(120), -1);
        check(120, "\1".repeat(119) + "\0", 119);
        check(120, "\1".repeat(119) + "\u00ff", 119);
    }

    private void check(int n, String bytes, int due) {
        tell(bytes);
        is(x.check(n), due, "check " + n);
        is(x.count(1), 0, "the tape is empty");
    }

    @Says(promise = 35, value = "-2: no such n, it has not so many (the tape stays).")
    void checkRefused() {
        commits(":");
        refused(() -> x.check(1), -2, "one more than none");
        tell("\0" + "\u00ff".repeat(139));
        for (int n : new int[] {MIN, -1000, -1, 121, 122, 140, 141, MAX}) {
            refused(() -> x.check(n), -2, "n " + n);
        }
        is(x.check(120), -1, "what was told stays");
        tell("\0" + "\u00ff".repeat(19));
        refused(() -> x.check(21), -2, "one more than there are");
        refused(() -> x.check(120), -2, "more than there are");
        is(x.check(20), -1, "all that there are");
    }

    @Says(promise = 36, value = "0 COMMITS, 1 bytes of the tape, 2 unlike TREES of COMMITS, 3 unlike CONTENTS of all FILES of these, 4 PLANS told, 5 REFS of all HISTORIES.")
    void count() {
        counts(new int[] {0, 0, 0, 0, 0, 0});
        commits(":+a=1;+b=01;+c=1", "0:", "0:+c=2", "2:-c", "2:+c=1", ":", ":");
        counts(new int[] {7, 0, 4, 3, 0, 0});
        branch(0, 'a', 0);
        tag(0, 'a', 0);
        branch(3, 'a', 0);
        is(plan(2, "from:0;to:1"), 2, "plan");
        tell("x");
        counts(new int[] {7, 20, 4, 3, 1, 3});
        x.check(0);
        for (int p = 0; p < 4; p++) {
            is(plan(p, "from:0;to:1"), 2, "plan");
        }
        counts(new int[] {7, 0, 4, 3, 4, 3});
        x = new CarriedHistory();
        for (int k = 0; k < 120; k++) {
            StringBuilder b = new StringBuilder(":");
            for (int i = 0; i < 15; i++) {
                b.append(i == 0 ? "+" : ";+").append((char) ('a' + i)).append('=').append(1000 + k * 15 + i);
            }
            is(commit(b.toString(), 0, 0), k, "COMMIT " + k);
        }
        counts(new int[] {120, 0, 120, 1800, 0, 0});
        x = new CarriedHistory();
        for (int k = 0; k < 120; k++) {
            StringBuilder b = new StringBuilder(":+p=000000");
            for (int i = 0; i < 10; i++) {
                int n = k * 10 + i;
                b.append(";+").append((char) ('a' + i)).append('=').append(String.format("%06d", n % 244 * 4096 + n / 244));
            }
            is(commit(b.toString(), 0, 0), k, "COMMIT " + k);
        }
        counts(new int[] {120, 0, 120, 1200, 0, 0});
        x = new CarriedHistory();
        commits(":+a=0000;+b=4096;+c=8192;+d=0", ":+a=8192;+b=0000;+c=4096;+d=00");
        counts(new int[] {2, 0, 2, 5, 0, 0});
    }

    private void counts(int[] due) {
        for (int what = 0; what < 6; what++) {
            is(x.count(what), due[what], "count " + what);
        }
    }

    @Says(promise = 36, value = "NONE for others.")
    void countNone() {
        takes(0, 5, what -> x.count(what), "what");
        store();
        takes(0, 5, what -> x.count(what), "what");
    }
}
