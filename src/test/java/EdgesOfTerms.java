/** The edges of "==== 2", the second half: how TREES, COMMITS and HISTORIES stand to one another; and what holds for all. */
final class EdgesOfTerms extends Desk {
    private static int bits(float f) {
        return Float.floatToRawIntBits(f);
    }

    /** The 512 calls that an object is good for, each one answered. */
    @Says("An object is used for at most 512 calls after it has been made; what later calls answer is free.")
    void callsAtMost() {
        for (int i = 0; i < 119; i++) {
            is(x.feed(0x3a616161, 0, 0, 0, 0), 20, "feed");
            is(x.commit(1, 0, i), i, "COMMIT " + i);
            is(x.ref(0, 0, 0, i), 1, "REF at COMMIT " + i);
            is(x.count(0), i + 1, "COMMITS");
        }
        is(x.feed(0x66726f6d, 0x3a303b74, 0x6f3a313b, 0x61616161, 0), 20, "call 477");
        is(x.plan(0, 11), 2, "call 478");
        for (int i = 0; i < 33; i++) {
            is(x.run(0), i == 0 ? 1 : 0, "call " + (479 + i));
        }
        is(x.count(0), 119, "call 512");
    }

    @Says("UNLIKE are PATHS with a FILE in one TREE alone, or of unlike CONTENTS.")
    void unlike() {
        commits(":+a=1;+b=2;+c/d=3", "0:", "0:+a=01", "0:-a", "0:+z=1", "0:*c>e", "0:-c;+c=3", "0:-a;-b;-c");
        int[] due = {3, 0, 1, 1, 1, 2, 2, 3};
        for (int k = 0; k < due.length; k++) {
            is(x.commitIs(k, 8), due[k], "UNLIKE of " + spelt(k));
        }
    }

    @Says("From a TREE to another one: GONE, NEW, CHANGED FILES.")
    void goneNewChanged() {
        commits(":+a=1;+b=2;+c=3", ":+b=2;+c=4;+d=5;+e=6", ":");
        int[][] due = {{0, 1, 1, 2, 1}, {1, 0, 2, 1, 1}, {0, 0, 0, 0, 0}, {0, 2, 3, 0, 0}, {2, 0, 0, 3, 0}, {2, 2, 0, 0, 0}};
        for (int[] d : due) {
            for (int what = 0; what < 3; what++) {
                is(x.diff(d[0], d[1], what), d[2 + what], "diff " + d[0] + " " + d[1] + " " + what);
            }
        }
    }

    @Says("LIKENESS of two CONTENTS: twice the most digits that are in both in one order (others between them), through the digits of both together, as a float;")
    void likeness() {
        String[][] pairs = {{"1", "1"}, {"1", "2"}, {"1", "11"}, {"12", "21"}, {"13", "123"}, {"123", "321"}, {"123456", "123456"},
            {"123456", "654321"}, {"123456", "135"}, {"123456", "777777"}, {"000000", "0"}, {"010101", "101010"},
            {"112233", "332211"}, {"123456", "234561"}, {"19", "918273"}, {"122", "221"}, {"00", "000000"}, {"90", "09090"}};
        int[] most = {1, 0, 1, 1, 2, 1, 6, 1, 3, 0, 1, 5, 2, 5, 1, 2, 2, 2};
        for (int i = 0; i < pairs.length; i++) {
            x = new CarriedHistory();
            commits(":+a=" + pairs[i][0], ":+a=" + pairs[i][1]);
            float due = (float) (2 * most[i]) / (float) (pairs[i][0].length() + pairs[i][1].length());
            is(x.likeness(0, 0, 1, 0, 0), bits(due), "LIKENESS of " + pairs[i][0] + " and " + pairs[i][1]);
            is(x.likeness(1, 0, 0, 0, 0), bits(due), "LIKENESS of " + pairs[i][1] + " and " + pairs[i][0]);
        }
    }

    @Says("in hundredths: 100 times it as a float, cut to a whole number.")
    void hundredths() {
        String[] ones = {"1", "1", "12", "12", "123", "12345", "12345", "123456", "1234", "12345", "1", "123"};
        String[] others = {"1", "2", "1", "134", "1567", "12389", "123456", "1", "123", "1234", "11", "1245"};
        int[] most = {1, 0, 1, 1, 1, 3, 5, 1, 3, 4, 1, 2};
        int[] due = {100, 0, 66, 40, 28, 60, 90, 28, 85, 88, 66, 57};
        for (int i = 0; i < ones.length; i++) {
            x = new CarriedHistory();
            commits(":+a=" + ones[i], ":+b=" + others[i]);
            is((int) (100f * ((float) (2 * most[i]) / (float) (ones[i].length() + others[i].length()))), due[i], "by hand");
            is(x.likeness(0, 0, 1, 0, 1), due[i], "hundredths of " + ones[i] + " and " + others[i]);
            if (due[i] >= 60) {
                is(x.renamed(0, 1, 0, 3), due[i], "hundredths of the pair");
            }
        }
    }

    @Says("RENAMED: a FILE GONE and one NEW with a LIKENESS of 0.6 (as a float) at least,")
    void justRenamed() {
        String[] ones = {"12345", "1234", "123456", "1", "12345", "12", "1234", "11"};
        String[] others = {"12399", "129", "12399", "11", "12999", "13", "1299", "1111"};
        int[] due = {1, 0, 0, 1, 0, 0, 0, 1};
        float[] likeness = {0.6f, 4f / 7f, 6f / 11f, 2f / 3f, 0.4f, 0.5f, 0.5f, 4f / 6f};
        for (int i = 0; i < ones.length; i++) {
            x = new CarriedHistory();
            commits(":+a=" + ones[i], ":+b=" + others[i], ":+a=" + others[i], ":+a=" + others[i] + ";+b=" + others[i]);
            is(x.likeness(0, 0, 1, 0, 0), bits(likeness[i]), "LIKENESS of " + ones[i] + " and " + others[i]);
            is(x.diff(0, 1, 3), due[i], "RENAMED of " + ones[i] + " and " + others[i]);
            is(x.diff(1, 0, 3), due[i], "RENAMED of " + others[i] + " and " + ones[i]);
            is(x.diff(0, 2, 3), 0, "what is CHANGED is not RENAMED");
            is(x.diff(0, 3, 3), 0, "what is not GONE is not RENAMED");
            is(x.diff(3, 2, 3), 0, "what is not NEW is not RENAMED");
        }
        x = new CarriedHistory();
        commits(":+a=123;+b=9", ":+b=123", ":+b=9;+c=9");
        is(x.diff(0, 1, 3), 0, "one GONE and one CHANGED");
        is(x.diff(1, 0, 3), 0, "one NEW and one CHANGED");
        is(x.diff(1, 2, 3), 0, "one NEW and one CHANGED");
        is(x.diff(2, 0, 3), 0, "of unlike CONTENTS");
    }

    @Says("the greatest first (of like ones the lowest one GONE, then the lowest NEW), each FILE once.")
    void whichRenamed() {
        commits(":+a=1234;+b=1234;+c=12345", ":+x=123456;+y=1234;+z=12345");
        pairs(0, 1, "0>1 2>2 1>0");
        pairs(1, 0, "1>0 2>2 0>1");
        commits(":+a=11;+b=11", ":+x=11;+y=11;+z=11", ":+x=1111;+y=111;+z=11");
        pairs(2, 3, "0>0 1>1");
        pairs(3, 2, "0>0 1>1");
        pairs(2, 4, "0>2 1>1");
        pairs(4, 2, "2>0 1>1");
        commits(":+a=12345", ":+x=1234;+y=1234", ":+a=1234;+b=1234;+c=99", ":+x=12345");
        pairs(5, 6, "0>0");
        pairs(7, 8, "0>0");
        commits(":+a=12;+b=192", ":+x=1233;+y=12");
        pairs(9, 10, "0>1");
        commits(":+a=192;+b=12", ":+x=12;+y=1233");
        pairs(11, 12, "1>0");
        String all = ":+a=7;+b=7;+c=7;+d=7;+e=7;+f=7;+g=7;+h=7;+i=7;+j=7;+k=7;+l=7;+m=7;+n=7;+o=7;+p=7";
        commits(all, ":");
        is(commit("13:*a>z/a;*b>z/b;*c>z/c;*d>z/d;*e>z/e;*f>z/f;*g>z/g;*h>z/h;*i>z/i;*j>z/j;*k>z/k;*l>z/l", 0, 0), 15, "twelve");
        is(commit("15:*m>z/m;*n>z/n;*o>z/o;*p>z/p", 0, 0), 16, "all");
        is(x.diff(13, 15, 3), 12, "twelve pairs");
        is(x.diff(13, 16, 3), 16, "sixteen pairs");
        is(x.renamed(13, 16, 15, 0), 15, "the last pair");
        is(x.renamed(13, 16, 15, 1), 15, "the last pair");
    }

    private void pairs(int j, int k, String due) {
        StringBuilder b = new StringBuilder();
        for (int i = 0; i < 16 && x.renamed(j, k, i, 0) >= 0; i++) {
            b.append(i == 0 ? "" : " ").append(x.renamed(j, k, i, 0)).append('>').append(x.renamed(j, k, i, 1));
        }
        is(b.toString(), due, "pairs from " + spelt(j) + " to " + spelt(k));
        is(x.diff(j, k, 3), due.isEmpty() ? 0 : due.split(" ").length, "how many");
    }

    // ---- ORIGIN ----

    private void origin(int k, int i, int commit, int file, int unlike, int renames) {
        int[] due = {commit, file, unlike, renames};
        for (int what = 0; what < 4; what++) {
            is(x.origin(k, i, what), due[what], "origin " + k + " " + i + " " + what);
        }
    }

    @Says("ORIGIN of a FILE of a COMMIT: step by step to the first PARENT that has a FILE at its PATH, to this;")
    void originByPath() {
        commits(":+a=1;+b=2", ":+b=3", "0,1:", "1,0:+a=1", "3,2:", "2:+b=4");
        origin(0, 1, 0, 1, 0, 0);
        origin(2, 1, 0, 1, 0, 0);
        origin(3, 1, 1, 0, 0, 0);
        origin(3, 0, 0, 0, 0, 0);
        origin(4, 1, 1, 0, 0, 0);
        origin(5, 1, 0, 1, 1, 0);
        commits("1,0:+b=2");
        origin(6, 0, 1, 0, 1, 0);
    }

    @Says("none has: to the first PARENT from which on it is RENAMED, to the FILE that it was there; none: there it is.")
    void originByRename() {
        commits(":+q=9;+r=123", ":+r=124;+s=123", "0,1:-q;*r>z", "1,0:-r;*s>z;+z=123", "0:-r;+z=456", "0,1:-r;+z=999");
        origin(2, 0, 0, 1, 0, 1);
        origin(3, 0, 1, 1, 0, 1);
        origin(4, 1, 4, 1, 0, 0);
        origin(5, 1, 5, 1, 0, 0);
        commits(":+c=555;+d=556", ":+z=777", "6,7:-c;+z=555", ":", "9,6:+e=556");
        origin(8, 1, 7, 0, 1, 0);
        origin(10, 0, 6, 1, 0, 1);
        commits("6:+e=555", ":+a=1;+b=2", "12:-a;-b;+a=1");
        origin(11, 2, 11, 2, 0, 0);
        origin(13, 0, 12, 0, 0, 0);
        x = new CarriedHistory();
        commits(":+a=111;+b=222;+c=333", "0:*a>x;*b>y;*c>z;+w=444", ":+w=9", "2:+v=111");
        for (int i = 0; i < 3; i++) {
            origin(1, i + 1, 0, i, 0, 1);
        }
        origin(1, 0, 1, 0, 0, 0);
        origin(3, 0, 3, 0, 0, 0);
    }

    @Says("It is WORN by a float: 1, times the LIKENESS of both CONTENTS at each step.")
    void worn() {
        commits(":+a=123456", "0:+a=12345", "1:+a=1234", "2:*a>b;+b=123", "3:", "4:+b=9", "5:+b=123");
        float due = 1f;
        is(x.origin(0, 0, 4), bits(due), "no step");
        due = due * (10f / 11f);
        is(x.origin(1, 0, 4), bits(due), "one step");
        due = due * (8f / 9f);
        is(x.origin(2, 0, 4), bits(due), "two steps");
        due = due * (6f / 7f);
        is(x.origin(3, 0, 4), bits(due), "a step that is RENAMED");
        is(x.origin(4, 0, 4), bits(due), "a step at which it was alike");
        is(x.origin(5, 0, 4), bits(0f), "a step at which no digit was in both");
        is(x.origin(6, 0, 4), bits(0f), "it stays so");
        origin(6, 0, 0, 0, 5, 1);
    }

    // ---- COMMITS to one another ----

    @Says("BASES of two COMMITS: of those that are each of both, it or an ANCESTOR of it, those that are no ANCESTOR of another one of these.")
    void bases() {
        commits(":", ":+a=1", "0,1:", "1,0:", "2,3:", "3,2:", ":+b=1", "4:");
        bases(4, 5, "2 3");
        bases(2, 3, "0 1");
        bases(4, 4, "4");
        bases(7, 4, "4");
        bases(4, 7, "4");
        bases(7, 5, "2 3");
        bases(0, 1, "");
        bases(6, 5, "");
        bases(0, 5, "0");
        bases(1, 7, "1");
    }

    private void bases(int j, int k, String due) {
        StringBuilder b = new StringBuilder();
        for (int i = 0; i < 120 && x.base(j, k, 10 + i) >= 0; i++) {
            b.append(i == 0 ? "" : " ").append(x.base(j, k, 10 + i));
        }
        is(b.toString(), due, "BASES of " + j + " and " + k);
        is(x.base(j, k, 0), due.isEmpty() ? 0 : due.split(" ").length, "how many");
    }

    @Says("BETWEEN a good and a bad one: what is the bad one or an ANCESTOR of it, but not the good one or an ANCESTOR of it;")
    void between() {
        commits(":", "0:", "1:", "2:", "1:", "3,4:", ":+a=1");
        int[][] due = {{0, 5, 5}, {1, 5, 4}, {2, 5, 3}, {3, 5, 2}, {4, 5, 3}, {5, 5, 0}, {5, 0, 0}, {0, 0, 0}, {0, 1, 1}, {6, 5, 6},
            {5, 6, 1}, {4, 3, 2}, {3, 4, 1}};
        for (int[] d : due) {
            is(x.halving(d[0], d[1], 0), d[2], "BETWEEN " + d[0] + " and " + d[1]);
        }
    }

    @Says("the WEIGHT of one of these: how many of them are it or an ANCESTOR of it; HALVING is the one of which the lesser of its WEIGHT and the rest is greatest (of like ones the lowest).")
    void halving() {
        commits(":", "0:", "1:", "2:", "3:", "4:", "5:", "0:", "0:", "7,8:", "9,6:");
        int[][] due = {{0, 1, 1, 1}, {0, 2, 1, 1}, {0, 3, 1, 1}, {0, 4, 2, 2}, {0, 5, 2, 2}, {0, 6, 3, 3}, {1, 6, 3, 2}, {0, 9, 7, 1},
            {0, 10, 5, 5}, {3, 10, 6, 3}, {10, 10, -2, -2}, {6, 6, -2, -2}, {6, 0, -2, -2}};
        for (int[] d : due) {
            is(x.halving(d[0], d[1], 1), d[2], "HALVING of " + d[0] + " and " + d[1]);
            is(x.halving(d[0], d[1], 2), d[3], "WEIGHT of that of " + d[0] + " and " + d[1]);
        }
    }

    @Says("LISTING of a HISTORY: one by one, of its COMMITS whose CHILDREN in it are all listed, the one of the greatest HOUR (of like ones the greatest number).")
    void listing() {
        is(commit(":", 0, 999), 0, "0");
        is(commit("0:", 0, 5), 1, "1");
        is(commit("0:+a=1", 0, 5), 2, "2");
        is(commit("1,2:", 0, 0), 3, "3");
        is(commit("1:+b=1", 0, 7), 4, "4");
        is(commit("0:+c=1", 0, 998), 5, "5");
        branch(0, 'a', 3);
        list(0, "3 2 1 0");
        branch(0, 'b', 4);
        list(0, "4 3 2 1 0");
        branch(0, 'b', 5);
        list(0, "5 3 2 1 0");
        branch(1, 'b', 5);
        list(1, "5 0");
        branch(1, 'c', 0);
        list(1, "5 0");
        list(2, "");
        is(commit("4:+d=1", 0, 1), 6, "6");
        branch(3, 'a', 6);
        branch(3, 'b', 2);
        list(3, "2 6 4 1 0");
        x = new CarriedHistory();
        is(commit(":", 0, 5), 0, "0");
        is(commit(":", 0, 4), 1, "1");
        is(commit(":", 0, 6), 2, "2");
        for (int k = 0; k < 3; k++) {
            x.ref(0, 0, k, k);
        }
        list(0, "2 0 1");
    }

    private void list(int h, String due) {
        StringBuilder b = new StringBuilder();
        for (int i = 0; i < 120 && x.listing(h, i) >= 0; i++) {
            b.append(i == 0 ? "" : " ").append(x.listing(h, i));
        }
        is(b.toString(), due, "LISTING of HISTORY " + h);
    }

    @Says("THE LINE of a COMMIT: it, its first PARENT, and so on.")
    void theLine() {
        commits(":", ":+a=1", "1,0:", "0,2:", "2,3:");
        int[][] due = {{0}, {1}, {2, 1}, {3, 0}, {4, 2, 1}};
        for (int[] d : due) {
            for (int i = 0; i < d.length; i++) {
                is(x.line(d[0], i), d[i], "line " + d[0] + " " + i);
            }
            is(x.line(d[0], d.length), -4, "not so many");
        }
    }

    @Says("A COMMIT TOUCHES a PATH if what is there (a FILE and its CONTENT, a FOLDER and all below it, nothing) is unlike that at each of its PARENTS; without PARENTS if something is there.")
    void touching() {
        commits(":+a=1;+b/x=2", "0:+a=2", "0:+b/y=3", "1,2:^1b", "1,2:+a=3", "0:-a;+a/q=1", "0:-b", "2:-b/x;-b/y;+b=2", "0:");
        String[] paths = {"a", "b", "b/x", "b/y", "z", "a/q", "b/x/z"};
        int[][] due = {{1, 1, 1, 0, 0, 0, 0}, {1, 0, 0, 0, 0, 0, 0}, {0, 1, 0, 1, 0, 0, 0}, {0, 0, 0, 0, 0, 0, 0},
            {1, 0, 0, 0, 0, 0, 0}, {1, 0, 0, 0, 0, 1, 0}, {0, 1, 1, 0, 0, 0, 0}, {0, 1, 1, 1, 0, 0, 0}, {0, 0, 0, 0, 0, 0, 0}};
        int[][] parents = {{}, {0}, {0}, {1, 2}, {1, 2}, {0}, {0}, {2}, {0}};
        for (int k = 0; k < due.length; k++) {
            for (int i = 0; i < paths.length; i++) {
                branch(0, 'a', k);
                int all = touches(0, paths[i]);
                boolean[] above = new boolean[9];
                mark(parents, k, above);
                above[k] = false;
                for (int j = 0; j < k; j++) {
                    all -= above[j] ? due[j][i] : 0;
                }
                is(all, due[k][i], "COMMIT " + k + " TOUCHES " + paths[i]);
            }
        }
    }

    private static void mark(int[][] parents, int k, boolean[] above) {
        above[k] = true;
        for (int p : parents[k]) {
            mark(parents, p, above);
        }
    }

    @Says("Its CHANGE: from the TREE of the first PARENT (none: without FILES) which PATHS are GONE, which NEW or CHANGED, to which CONTENT.")
    void theChange() {
        commits(":+a=1;+b=2", "0:+a=3;-b", ":+b=9;+c=4", "2:+a=3;-b", ":+a=3", "2,0:+a=3;-b", "0,2:+a=3;-b:other", "2:+a=3",
            "2:-b", "2:+a=4;-b", "2:+d=3;-b", ":", "0:");
        int[][] alike = {{1, 3}, {1, 5}, {1, 6}, {3, 6}, {11, 12}};
        int[][] unlike = {{1, 4}, {1, 7}, {1, 8}, {1, 9}, {1, 10}, {0, 2}, {0, 11}};
        for (int i = 0; i < alike.length + unlike.length; i++) {
            boolean is = i < alike.length;
            int[] p = is ? alike[i] : unlike[i - alike.length];
            x.ref(1, 0, 0, p[1]);
            int found = x.picked(1, p[0]);
            is(found == p[1], is, "picked: COMMIT " + p[1] + " as COMMIT " + p[0]);
        }
        commits(":+a=3");
        branch(2, 'a', 4);
        is(x.picked(2, 13), 4, "without PARENTS: all its FILES are NEW");
    }

    @Says("A REPLAY of a COMMIT onto a BRANCH: a COMMIT with the one of the BRANCH as PARENT, its TREE with the CHANGE, and MESSAGE, WHO, HOUR of what is replayed;")
    void theReplay() {
        is(commit(":+a=1", 0, 0), 0, "0");
        is(commit("0:+b=2:first", 3, 33), 1, "1");
        is(commit("0:+c=3:second", 4, 44), 2, "2");
        is(commit("2,1:^1b;+a=5:third", 5, 55), 3, "3");
        branch(0, 'a', 1);
        branch(0, 'b', 2);
        is(x.replay(0, 0, 2), 4, "replayed");
        is(spelt(4), "1:a=1;b=2;c=3:second", "PARENT, TREE, MESSAGE");
        is(x.commitIs(4, 1), 4, "WHO");
        is(x.commitIs(4, 2), 44, "HOUR");
        is(x.replay(0, 1, 3), 5, "one of two PARENTS");
        is(spelt(5), "2:a=5;b=2;c=3:third", "the CHANGE from its first PARENT, one PARENT");
        branch(0, 'c', 2);
        is(x.replay(0, 2, 0), -8, "one without PARENTS, as it is behind it");
    }

    @Says("each PATH of the CHANGE must be in the BRANCH's TREE as it was ahead of the CHANGE (nothing, that CONTENT), or as it is behind it.")
    void whatAReplayNeeds() {
        commits(":+a=1;+b=2", "0:+a=9;-b;+c=3");
        String[] trees = {"+a=1;+b=2", "+a=9;+b=2", "+a=1", "+a=1;+b=2;+c=3", "+a=9;+c=3", "+a=9", "+b=2", "+a=2;+b=2", "+a=1;+b=3",
            "+a=1;+b=2;+c=4", "+a=01;+b=2", "+c=3", ""};
        int[] due = {1, 1, 1, 1, -8, 1, -6, -6, -6, -6, -6, -6, -6};
        for (int i = 0; i < trees.length; i++) {
            int k = commit(":" + trees[i] + (trees[i].isEmpty() ? "" : ";") + "+z=7", 1, i);
            branch(0, 'a', k);
            String before = all();
            int answer = x.replay(0, 0, 1);
            if (due[i] < 0) {
                is(answer, due[i], "replay onto " + trees[i]);
                is(all(), before, "all behind it");
            } else {
                is(spelt(answer), k + ":a=9;c=3;z=7:", "replay onto " + trees[i]);
            }
        }
    }

    @Says("each PATH of the CHANGE must be in the BRANCH's TREE as it was ahead of the CHANGE (nothing, that CONTENT), or as it is behind it.")
    void whatAReplayNeedsOfFolders() {
        commits(":+p=1", "0:-p;+p/q=2", ":+p/q=2;+z=1", ":+p/r=3", ":+p/q=2;+p/r=3", ":+p/q=1", ":+p=1;+z=1", ":+z=1");
        branch(0, 'a', 1);
        is(x.replay(0, 0, 1), -8, "onto itself: as it is behind");
        branch(0, 'a', 2);
        is(x.replay(0, 0, 1), -8, "the FOLDER is there already");
        branch(0, 'a', 3);
        is(spelt(x.replay(0, 0, 1)), "3:p/q=2;p/r=3:", "another FILE in a FOLDER there");
        branch(0, 'a', 4);
        is(x.replay(0, 0, 1), -8, "the FOLDER has one more");
        branch(0, 'a', 5);
        is(x.replay(0, 0, 1), -6, "neither nothing nor that CONTENT");
        branch(0, 'a', 6);
        is(spelt(x.replay(0, 0, 1)), "6:p/q=2;z=1:", "as it was ahead");
        branch(0, 'a', 7);
        is(spelt(x.replay(0, 0, 1)), "7:p/q=2;z=1:", "p as it is behind, p/q as it was ahead");
    }

    // ---- what a PLAN brought about ----

    private void sound(int broken, int tied, int twins) {
        is(x.sound(0, 0), broken, "BROKEN");
        is(x.sound(0, 1), tied, "TIED");
        is(x.sound(0, 2), twins, "TWINS");
    }

    @Says("Of a PLAN, over its COMMITS that are MAPPED: BROKEN: pairs KEPT, one an ELDER of the other, whose IMAGES are not ANCESTORS so.")
    void broken() {
        commits(":+a=1", "0:+b=1", "0:+c=1", "1,2:", "3:+d=1", "4:");
        carry(5, ";merges:3;empty:0;drop:b");
        is(x.commitIs(x.image(0, 3, 0), 0), 1, "one PARENT' alone stays");
        sound(3, 0, 0);
        carry(5, ";merges:3;drop:b");
        sound(0, 0, 0);
        carry(5, ";merges:1;empty:0;drop:b");
        sound(0, 0, 0);
        branch(0, 'a', 3);
        carry(3, ";merges:3;empty:0;drop:b");
        sound(1, 0, 0);
        branch(0, 'a', 2);
        sound(0, 0, 0);
        is(x.planIs(0, 9), 4, "KEPT, though REFS come to them no more");
        branch(0, 'a', 5);
        sound(1, 0, 0);
        is(x.sound(0, 5), 2, "those that are not MAPPED do not count");
    }

    @Says("BROKEN: pairs KEPT, one an ELDER of the other, whose IMAGES are not ANCESTORS so.")
    void brokenOfOneImage() {
        is(commit(":+f=1", 0, 0), 0, "COMMIT 0");
        is(commit("0:", 0, 5), 1, "COMMIT 1");
        is(commit(":+g=1", 0, 2), 2, "COMMIT 2");
        is(commit("2,1:", 0, 3), 3, "COMMIT 3");
        is(commit("0,3:", 0, 5), 4, "COMMIT 4");
        carry(4, ";empty:0;merges:3");
        int[] images = {0, 1, 2, 5, 1};
        for (int k = 0; k < 5; k++) {
            is(x.image(0, k, 0), images[k], "IMAGE of COMMIT " + k);
            is(x.image(0, k, 1), 0, "KEPT");
        }
        is(spelt(5), "2:g=1:", "one PARENT' alone");
        is(x.ancestor(1, 1), 0, "no COMMIT is an ANCESTOR of itself");
        sound(5, 0, 1);
    }

    @Says("BROKEN: pairs KEPT, one an ELDER of the other, whose IMAGES are not ANCESTORS so.")
    void brokenAmongElders() {
        commits(":+a=1", "0:+b=1", ":+c=1", "1,2:+d=1");
        branch(0, 'b', 1);
        carry(3, ";graft:3>2");
        is(carried(3), "2:a=1;b=1;d=1:", "grafted");
        is(x.ancestor(1, 3), 1, "an ANCESTOR that is no ELDER");
        is(x.ancestor(1, x.image(0, 3, 0)), 0, "its IMAGE is no ANCESTOR either");
        sound(0, 0, 0);
    }

    @Says("TIED: pairs KEPT, none an ELDER of the other, of whose IMAGES one is an ANCESTOR of the other.")
    void tied() {
        twoLines();
        carry(2, "");
        sound(0, 0, 0);
        carry(2, ";sign:1>0");
        sound(0, 6, 3);
        x.ref(0, 0, 1, 4);
        sound(0, 4, 2);
        carry(2, ";graft:2>0;sign:1>0");
        is(carried(2), "0:a=1;b=1;c=1:", "grafted");
        sound(0, 2, 1);
        x.ref(0, 0, 1, -1);
        sound(0, 0, 0);
    }

    /** COMMITS 0, 1, 2 of WHO 0 and the same once more, 3, 4, 5, of WHO 1: by a sign their IMAGES are one. */
    private void twoLines() {
        for (int k = 0; k < 6; k++) {
            String parent = k % 3 == 0 ? "" : "" + (k - 1);
            is(commit(parent + ":+" + (char) ('a' + k % 3) + "=1", k / 3, k % 3), k, "COMMIT " + k);
        }
        branch(0, 'b', 5);
        carry(2, ";sign:0>7;sign:1>7");
    }

    @Says("TWINS: KEPT ones whose IMAGE is that of a lower KEPT one.")
    void twins() {
        twoLines();
        sound(0, 6, 3);
        for (int who = 2; who < 5; who++) {
            is(commit(":+a=1", who, 0), x.count(0) - 1, "one more");
            x.ref(0, 1, who, x.count(0) - 1);
        }
        is(plan(0, "from:0;to:1;sign:0>7;sign:1>7;sign:2>7;sign:3>7;sign:4>7"), 7, "plan");
        is(x.sound(0, 2), 0, "none MAPPED");
        is(x.run(0), 9, "run");
        is(x.sound(0, 2), 6, "each but the lowest of one IMAGE");
        x.ref(0, 0, 0, -1);
        is(x.sound(0, 2), 3, "the lowest of these is of the PLAN no more");
        is(plan(0, "from:0;to:1;skip:1;sign:2>7;sign:3>7;sign:4>7"), 6, "plan");
        is(x.run(0), 6, "run");
        is(x.sound(0, 2), 2, "what is SKIPPED is none");
    }

    @Says("SAVED are COMMITS, HISTORIES, PLANS (what is MAPPED, too); UNDONE: as they were SAVED last.")
    void savedAndUndone() {
        commits(":+a=1", "0:+b=1");
        carry(1, ";drop:b");
        branch(2, 'z', 1);
        String first = all();
        is(x.keep(), 2, "SAVED");
        commits("1:+c=1");
        String second = null;
        for (int round = 0; round < 3; round++) {
            branch(0, 'a', 2);
            branch(3, 'c', 0);
            is(x.ref(2, 0, 25, -1), 0, "a REF goes");
            is(x.run(0), 1, "run");
            is(plan(1, "from:0;to:3;most:1"), 3, "another PLAN");
            is(x.run(1), 3, "run");
            is(plan(0, "from:1;to:2;keep:a"), 3, "told anew");
            second = all();
            is(second.equals(first), false, "all is as it was");
            is(x.undo(), true, "undo");
            is(all(), first, "all behind undo");
            is(commit("1:+c=" + (round + 2), 0, 0), 2, "another COMMIT of that number");
            is(spelt(2), "1:a=1;b=1;c=" + (round + 2) + ":", "it is the one told last");
        }
        is(x.undo(), true, "undo");
        is(all(), first, "all behind undo");
        is(x.run(0), 0, "what is MAPPED stays so");
        is(x.image(0, 1, 1), 1, "EMPTY");
        commits(":+q=1");
        is(x.keep(), 3, "SAVED last");
        commits(":+r=1");
        is(x.undo(), true, "undo");
        is(x.count(0), 3, "as SAVED last");
    }

    @Says("UNDONE: as they were SAVED last.")
    void nothingIsLeftOfWhatIsUndone() {
        commits(":+a=1", "0:", "1:");
        x.keep();
        commits("2:+b/c/d=1;+b/e=2;+z=3;*a>q:message");
        branch(0, 'a', 3);
        carry(3, ";move:b>c");
        is(x.undo(), true, "undo");
        is(commit(":+b/e=2", 0, 3), 3, "another COMMIT of that number");
        is(spelt(3), ":b/e=2:", "as told");
        int[] due = {0, 0, 3, 1, 0, 0, 0, 0, 1};
        for (int what = 0; what < due.length; what++) {
            is(x.commitIs(3, what), due[what], "commitIs " + what);
        }
        for (int j = 0; j < 4; j++) {
            is(x.ancestor(j, 3), 0, "no ANCESTOR");
        }
        is(look(3, "z", 0), 0, "nothing at z");
        is(look(3, "q", 1), 0, "nothing at q");
        is(look(3, "b", 2), 1, "no FOLDER in b");
        is(x.likeness(3, 1, 0, 0, 0), -4, "no FILE 1");
        is(x.diff(0, 3, 0) * 10 + x.diff(0, 3, 1), 11, "one GONE, one NEW");
        is(x.diff(3, 0, 0) * 10 + x.diff(3, 0, 1), 11, "one GONE, one NEW");
        branch(1, 'a', 3);
        is(touches(1, "z") + touches(1, "q"), 0, "it TOUCHES neither");
        is(commit("3:", 0, 4), 4, "a CHILD");
        branch(1, 'a', 4);
        is(touches(1, "b"), 1, "COMMIT 3 alone");
        is(x.undo(), true, "undo");
        is(commit("0:-a;+b/e=2", 0, 3), 3, "another COMMIT of that number");
        is(x.commitIs(3, 5), 1, "GENERATION");
        is(x.commitIs(3, 6), 1, "ANCESTORS");
    }

    @Says("CHECK: how many FILES COMMITS have, from 0 on: right, or the first that is not so.")
    void theCheck() {
        commits(":+a=1", ":", "0:+b=1");
        check(3, "\1\0\2", -1);
        check(3, "\0\0\2", 0);
        check(3, "\1\1\2", 1);
        check(3, "\1\0\1", 2);
        check(3, "\0\1\1", 0);
        check(1, "\1\7\7", -1);
        check(0, "\7\7\7", -1);
        check(4, "\1\0\2\u00ff", -1);
        check(4, "\1\0\2\0", 3);
        check(3, "\1\u00ff\2", 1);
    }

    private void check(int n, String bytes, int due) {
        tell(bytes);
        is(x.check(n), due, "check " + n);
        is(x.count(1), 0, "the tape");
    }

    // ---- what holds for all ----

    @Says("All memory is the desk's own. A call that is refused (NONE, a number below 0 that is told as a reason, false) changes nothing but the tape, where it is told.")
    void ownMemory() {
        CarriedHistory other = new CarriedHistory();
        commits(":+a=1", "0:+b=1");
        carry(1, ";drop:b");
        is(x.keep(), 2, "keep");
        String before = all();
        CarriedHistory mine = x;
        x = other;
        is(x.undo(), false, "nothing was SAVED on the other desk");
        for (int what = 0; what < 6; what++) {
            is(x.count(what), 0, "count " + what + " of the other desk");
        }
        commits(":", "0:", "1:+z=1");
        carry(2, "");
        tell("x");
        is(x.keep(), 4, "keep");
        String others = all();
        x = mine;
        is(all(), before, "all of this desk");
        is(x.count(1), 0, "the tape of this desk");
        is(x.undo(), true, "undo");
        is(all(), before, "all of this desk");
        x = other;
        is(all(), others, "all of the other desk");
        is(x.count(1), 20, "the tape of the other desk");
    }

    @Says("A call that is refused (NONE, a number below 0 that is told as a reason, false) changes nothing but the tape, where it is told.")
    void refusedChangesNothing() {
        refused(() -> x.undo() ? 1 : 0, 0, "undo");
        commits(":+a=1", "0:+b=1", "0:+c=1", ":+a=2");
        for (int i = 0; i < 7; i++) {
            is(x.ref(0, 0, i, i % 4), i + 1, "REF");
        }
        branch(1, 'z', 0);
        branch(1, 'y', 0);
        is(plan(0, "from:0;to:1;drop:b"), 3, "PLAN 0");
        is(plan(1, "from:0;to:2;drop:b"), 3, "PLAN 1");
        is(x.run(1), 4, "run");
        is(x.keep(), x.count(0), "keep");
        refused(() -> x.run(0), -5, "nine REFS");
        refused(() -> x.again(0), -5, "nine REFS");
        refused(() -> x.run(3), -2, "no PLAN 3");
        refused(() -> x.again(2), -2, "no PLAN 2");
        refused(() -> x.join(0, 0, 1, 0, 0), -7, "an ANCESTOR");
        refused(() -> x.join(0, 0, 3, 0, 0), -6, "unlike CONTENTS");
        refused(() -> x.join(0, 0, 9, 0, 0), -4, "no BRANCH");
        refused(() -> x.replay(4, 3, 1), -1, "HISTORY 4");
        refused(() -> x.replay(0, 9, 1), -4, "no BRANCH");
        refused(() -> x.replay(0, 3, 0), -6, "a PATH is neither so nor so");
        refused(() -> x.replay(0, 1, 1), -8, "all is so already");
        refused(() -> x.ref(0, 0, 25, -1), -4, "none to go");
        refusedTold(() -> commit("0:-z", 0, 0), -8002, "a FAULT");
        refusedTold(() -> plan(1, "from:0;to:0"), -3010, "a FAULT");
        refusedTold(() -> look(0, "/", 0), -1000, "a FAULT");
        refusedTold(() -> touches(0, "/"), -1000, "a FAULT");
        tell("abc");
        refused(() -> x.check(121), -2, "no such n");
        refused(() -> x.commit(21, 0, 0), -1, "not so many");
        refused(() -> x.plan(1, 21), -1, "not so many");
        String before = all();
        is(x.undo(), true, "undo");
        is(all(), before, "what is SAVED stays so, too");
    }

    @Says("The constants: `NONE = -1`: There is none.")
    void none() {
        is(CarriedHistory.NONE, -1, "NONE");
        is(x.commitIs(0, 0), CarriedHistory.NONE, "no COMMIT 0");
    }
}
