/** The edges of "==== 2", the first half: how COMMITS are REWRITTEN by a PLAN, and what a RUN lays. */
final class EdgesOfCarrying extends Desk {
    private static final int KEPT = 0;
    private static final int EMPTY = 1;
    
    private int image(int k) {
        return x.image(0, k, 0);
    }

    private int fate(int k) {
        return x.image(0, k, 1);
    }

    private String tree(int k) {
        return carried(k).split(":", -1)[1];
    }

    private String message(int k) {
        return carried(k).split(":", -1)[2];
    }

    private String parents(int k) {
        return carried(k).split(":", -1)[0];
    }

    /** TREE' of a COMMIT by PLAN 0 with these LINES, kept whatever it is. */
    private void tree(int k, String lines, String due, int taken, int lost) {
        carry(k, lines + ";empty:0");
        is(tree(k), due, "TREE' by " + lines);
        is(x.tried(0, k, 0), due.isEmpty() ? 0 : due.split(";").length, "FILES by " + lines);
        is(x.tried(0, k, 1), taken, "FILES TAKEN by " + lines);
        is(x.tried(0, k, 2), lost, "FILES LOST by " + lines);
    }

    // ---- FORE, ELDERS, COMMITS of a PLAN ----

    @Says("The FORE of a COMMIT by a PLAN: its PARENTS in their order; with a graft what that tells (that one; . none).")
    void fore() {
        commits(":+a=1", ":+b=1", "1,0:+c=1", "2:+d=1");
        carry(3, "");
        is(parents(2), "1,0", "its PARENTS in their order");
        is(parents(3), "2", "its PARENT");
        carry(3, ";graft:2>0");
        is(parents(2), "0", "that one alone");
        is(x.image(0, 1, 0), -4, "the other one is none of the PLAN");
        carry(3, ";graft:2>.");
        is(parents(2), "", "none");
        is(x.planIs(0, 8), 2, "MAPPED");
        carry(3, ";graft:3>1");
        is(parents(3), "1", "one that was no PARENT");
        is(image(2), -4, "its PARENT is none of the PLAN");
        carry(2, ";graft:1>0");
        is(parents(1), "0", "a graft of one without PARENTS");
    }

    @Says("ELDERS: its FORE, those of these, and so on.")
    void elders() {
        commits(":+a=1", "0:+b=1", "1:+c=1", "2:+d=1:#0#1#2#3");
        carry(3, ";move:a>z");
        is(message(3), "#" + image(0) + "#" + image(1) + "#" + image(2) + "#3", "ELDERS, not itself");
        carry(3, ";graft:2>0;move:a>z");
        is(message(3), "#" + image(0) + "#1#" + image(2) + "#3", "by a graft 1 is none");
        carry(3, ";graft:3>.;move:a>z");
        is(message(3), "#0#1#2#3", "by a graft none is");
    }

    @Says("COMMITS of a PLAN: those that REFS of its from HISTORY are at, and ELDERS of these. A COMMIT is REWRITTEN so:")
    void commitsOfAPlan() {
        commits(":+a=1", "0:+b=1", "1:+c=1", "0:+d=1", ":+e=1");
        is(plan(0, "from:0;to:1"), 2, "plan");
        is(x.sound(0, 5), 0, "without REFS none");
        is(x.run(0), 0, "none is REWRITTEN");
        tag(0, 'a', 3);
        is(x.sound(0, 5), 2, "of a TAG");
        branch(0, 'a', 2);
        is(x.sound(0, 5), 4, "of a BRANCH, too, each once");
        branch(2, 'a', 4);
        is(x.sound(0, 5), 4, "REFS of another HISTORY do not count");
        is(x.run(0), 4, "REWRITTEN");
        is(x.image(0, 4, 0), -4, "not MAPPED");
        is(plan(0, "from:0;to:1;graft:1>.;graft:3>."), 4, "grafts");
        is(x.sound(0, 5), 3, "what grafts cut off is none of it");
    }

    // ---- TREE' ----

    @Says("TREE': a FILE is TAKEN if its CONTENT has no more digits than most,")
    void most() {
        commits(":+a=1;+b=12;+c=123;+d=1234;+e=12345;+f=123456;+g=000000");
        String[] files = {"a=1", "b=12", "c=123", "d=1234", "e=12345", "f=123456;g=000000"};
        StringBuilder due = new StringBuilder();
        for (int most = 1; most <= 6; most++) {
            due.append(most == 1 ? "" : ";").append(files[most - 1]);
            tree(0, ";most:" + most, due.toString(), most == 6 ? 7 : most, 0);
        }
        tree(0, "", due.toString(), 7, 0);
        tree(0, ";most:2;swap:12>123456", "a=1;b=123456", 2, 0);
        tree(0, ";most:2;swap:123456>1", "a=1;b=12", 2, 0);
        tree(0, ";most:2;keep:f;keep:b", "b=12", 1, 0);
    }

    @Says("without keep, or if a keep is its PATH or a BEGINNING of it, and no drop is so.")
    void keepsAndDrops() {
        commits(":+a/b/c=1;+a/b/d=2;+a/e=3;+b/a=4;+c=5");
        tree(0, "", "a/b/c=1;a/b/d=2;a/e=3;b/a=4;c=5", 5, 0);
        tree(0, ";keep:a", "a/b/c=1;a/b/d=2;a/e=3", 3, 0);
        tree(0, ";keep:a/b", "a/b/c=1;a/b/d=2", 2, 0);
        tree(0, ";keep:a/b/c", "a/b/c=1", 1, 0);
        tree(0, ";keep:a/b/c/d", "", 0, 0);
        tree(0, ";keep:q", "", 0, 0);
        tree(0, ";keep:c;keep:b", "b/a=4;c=5", 2, 0);
        tree(0, ";drop:a", "b/a=4;c=5", 2, 0);
        tree(0, ";drop:a/b", "a/e=3;b/a=4;c=5", 3, 0);
        tree(0, ";drop:a/b/c", "a/b/d=2;a/e=3;b/a=4;c=5", 4, 0);
        tree(0, ";drop:a/b/c/d", "a/b/c=1;a/b/d=2;a/e=3;b/a=4;c=5", 5, 0);
        tree(0, ";keep:a;drop:a/b", "a/e=3", 1, 0);
        tree(0, ";keep:a/b;drop:a", "", 0, 0);
        tree(0, ";keep:a/b/c;drop:a/b/c", "", 0, 0);
        tree(0, ";keep:a;keep:b;keep:c;keep:q;drop:b;drop:c;drop:a/e;drop:a/b/d", "a/b/c=1", 1, 0);
    }

    @Says("Of the moves whose first PLACE is its PATH, a BEGINNING of it, or . , that of the most NAMES:")
    void whichMove() {
        commits(":+a/b/c=1;+a/d=2;+e=3");
        tree(0, ";move:a>x;move:.>y;move:a/b>z", "x/d=2;y/e=3;z/c=1", 3, 0);
        tree(0, ";move:a/b/c>w;move:a/b>z;move:a>x", "e=3;w=1;x/d=2", 3, 0);
        tree(0, ";move:a/b/c/d>w;move:b>q;move:d>q", "a/b/c=1;a/d=2;e=3", 3, 0);
        tree(0, ";move:.>y", "y/a/b/c=1;y/a/d=2;y/e=3", 3, 0);
        tree(0, ";move:e>a/a;move:a>e", "a/a=3;e/b/c=1;e/d=2", 3, 0);
    }

    @Says("the NAMES of the second PLACE and behind them those of its PATH behind the first PLACE; without such a move as it is.")
    void whereTo() {
        commits(":+a/b/c=1;+a/d=2;+e=3");
        tree(0, ";move:a>.", "b/c=1;d=2;e=3", 3, 0);
        tree(0, ";move:a/b>.", "a/d=2;c=1;e=3", 3, 0);
        tree(0, ";move:a>p/q/r/s", "e=3;p/q/r/s/b/c=1;p/q/r/s/d=2", 3, 0);
        tree(0, ";move:a/d>p", "a/b/c=1;e=3;p=2", 3, 0);
        tree(0, ";move:a>a", "a/b/c=1;a/d=2;e=3", 3, 0);
        tree(0, ";move:.>.", "a/b/c=1;a/d=2;e=3", 3, 0);
        tree(0, ";move:a>a/a", "a/a/b/c=1;a/a/d=2;e=3", 3, 0);
    }

    @Says("LOST is one TAKEN that has no NAMES then, or more than 6,")
    void lostByNames() {
        commits(":+a/b/c=1;+d=2", "0:*a>q/r/s/t");
        is(spelt(1), "0:d=2;q/r/s/t/b/c=1:", "six NAMES");
        tree(0, ";move:d>.", "a/b/c=1", 2, 1);
        tree(0, ";move:a/b/c>.", "d=2", 2, 1);
        tree(0, ";move:a/b/c>.;drop:d", "", 1, 1);
        tree(0, ";move:d>.;drop:d", "a/b/c=1", 1, 0);
        tree(1, "", "d=2;q/r/s/t/b/c=1", 2, 0);
        tree(1, ";move:q>p", "d=2;p/r/s/t/b/c=1", 2, 0);
        tree(1, ";move:q>p/q", "d=2", 2, 1);
        tree(1, ";move:.>p", "p/d=2", 2, 1);
        tree(1, ";move:.>p/p/p/p", "p/p/p/p/d=2", 2, 1);
        tree(1, ";move:q/r/s/t>p/q/r/s", "d=2;p/q/r/s/b/c=1", 2, 0);
        tree(1, ";move:q/r/s>p/q/r/s", "d=2", 2, 1);
        tree(1, ";move:q/r/s/t>.", "b/c=1;d=2", 2, 0);
        tree(1, ";move:.>.", "d=2;q/r/s/t/b/c=1", 2, 0);
    }

    @Says("or whose PATH then is that of a FILE taken over already (they come in order of their old PATHS; one LOST is not taken over), a BEGINNING of it, or has it as a BEGINNING.")
    void lostByOthers() {
        commits(":+a=1;+b=2;+c/d=3;+e/f/g=4");
        tree(0, ";move:b>a", "a=1;c/d=3;e/f/g=4", 4, 1);
        tree(0, ";move:a>b", "b=1;c/d=3;e/f/g=4", 4, 1);
        tree(0, ";move:a>z;move:b>z", "c/d=3;e/f/g=4;z=1", 4, 1);
        tree(0, ";move:b>a/x", "a=1;c/d=3;e/f/g=4", 4, 1);
        tree(0, ";move:a>b/x", "b/x=1;c/d=3;e/f/g=4", 4, 1);
        tree(0, ";move:e/f/g>c", "a=1;b=2;c/d=3", 4, 1);
        tree(0, ";move:a>e/f;move:b>e/f/g", "c/d=3;e/f=1", 4, 2);
        tree(0, ";move:a>b;move:b>c;move:c/d>b/x", "b=1;c=2;e/f/g=4", 4, 1);
        tree(0, ";move:a>z;move:b>z/y;move:c/d>z/y/x", "e/f/g=4;z=1", 4, 2);
        tree(0, ";move:a>y/y;move:b>y;move:c/d>y/x", "e/f/g=4;y/x=3;y/y=1", 4, 1);
        tree(0, ";move:a>b;move:b>a", "a=2;b=1;c/d=3;e/f/g=4", 4, 0);
        tree(0, ";move:a>.;move:b>a/x", "a/x=2;c/d=3;e/f/g=4", 4, 1);
        tree(0, ";move:b>a/x;drop:a", "a/x=2;c/d=3;e/f/g=4", 3, 0);
    }

    @Says("TREE' are the others; a CONTENT that is the first one of a swap is the second one then (once).")
    void swapsOnce() {
        commits(":+a=1;+b=2;+c=01;+d=111111;+e=3");
        tree(0, ";swap:1>2", "a=2;b=2;c=01;d=111111;e=3", 5, 0);
        tree(0, ";swap:1>2;swap:2>3;swap:3>1", "a=2;b=3;c=01;d=111111;e=1", 5, 0);
        tree(0, ";swap:2>3;swap:1>2", "a=2;b=3;c=01;d=111111;e=3", 5, 0);
        tree(0, ";swap:01>1;swap:111111>0;swap:1>1;swap:9>8", "a=1;b=2;c=1;d=0;e=3", 5, 0);
        tree(0, ";swap:1>999999;move:b>a", "a=999999;c=01;d=111111;e=3", 5, 1);
    }

    // ---- PARENTS' ----

    @Says("PARENTS': the IMAGES of its FORE in order, each once (it counts as that of the first with it); those without IMAGE not.")
    void imagesOfTheFore() {
        commits(":+a=1", "0:+b=1", "0:+c=1", ":+b=3", "2,1,3:+d=1", "1,0,2:+d=1", "0,1,2:+d=1", "3:+d=1");
        branch(0, 'b', 5);
        branch(0, 'c', 6);
        branch(0, 'd', 7);
        carry(4, "");
        is(parents(4), "2,1,3", "in order");
        carry(4, ";drop:b;merges:0");
        is(image(3), -2, "COMMIT 3 has no IMAGE");
        is(parents(4), "2,0", "what has no IMAGE is left out");
        is(parents(5), "0,2", "one IMAGE of two once, where the first is");
        is(parents(6), "0,2", "one IMAGE of two once, where the first is");
        is(parents(7), "", "none is left");
        carry(4, ";drop:b;merges:1");
        is(parents(5), "2", "it counts as COMMIT 1, no ELDER of 2");
        is(parents(6), "0,2", "it counts as COMMIT 0, an ELDER of 2");
    }

    /** Without b COMMIT 1 is EMPTY: so its IMAGE is COMMIT 0, an ANCESTOR of that of COMMIT 2. */
    private void aside() {
        commits(":+a=1", "0:+b=1", "0:+c=1", "1,2:^1c;+d=1", "2,1:+d=1", "0,2:+d=1", "2,0:+d=1");
        branch(0, 'b', 4);
        branch(0, 'c', 5);
        branch(0, 'd', 6);
    }

    @Says("By merges 0 all stay;")
    void mergesByNone() {
        aside();
        carry(3, ";drop:b;merges:0");
        is(parents(3), "0,2", "an ANCESTOR and what is below it");
        is(parents(4), "2,0", "the other way round");
        is(parents(5), "0,2", "what was so before");
        is(parents(6), "2,0", "what was so before");
    }

    @Says("by 1 those go that are an ANCESTOR of another one while the COMMIT of its FORE that it counts as is no ELDER of that one's;")
    void mergesByOne() {
        aside();
        for (String lines : new String[] {";drop:b;merges:1", ";drop:b"}) {
            carry(3, lines);
            is(parents(3), "2", "COMMIT 1 was no ELDER of COMMIT 2");
            is(parents(4), "2", "the other way round");
            is(parents(5), "0,2", "COMMIT 0 was an ELDER of COMMIT 2 already");
            is(parents(6), "2,0", "the other way round");
        }
        carry(3, ";merges:1");
        is(parents(3), "1,2", "none is an ANCESTOR of the other one");
        carry(3, ";drop:b;merges:1;graft:2>.");
        is(parents(5).split(",").length, 2, "by a graft it is no ANCESTOR");
    }

    @Says("by 1 those go that are an ANCESTOR of another one while the COMMIT of its FORE that it counts as is no ELDER of that one's;")
    void mergesByElders() {
        is(commit(":+a=1", 0, 0), 0, "COMMIT 0");
        is(commit(":+a=1", 1, 0), 1, "COMMIT 1");
        is(commit("0:+b=1", 0, 2), 2, "COMMIT 2");
        is(commit("0,2:+c=1", 0, 3), 3, "COMMIT 3");
        carry(3, ";sign:1>0;graft:2>1");
        is(image(1), 0, "one IMAGE of COMMITS 0 and 1");
        is(image(2), 2, "its PARENT is COMMIT 0 again");
        is(parents(3), "2", "COMMIT 0 is an ANCESTOR of COMMIT 2, but no ELDER by the graft");
        carry(3, ";sign:1>0");
        is(parents(3), "0,2", "without the graft it is an ELDER");
        x = new CarriedHistory();
        commits(":+a=1", ":+b=1", "0,1:+c=1", "1,0:+c=1");
        branch(0, 'b', 3);
        carry(2, ";graft:1>0");
        is(parents(2), "0," + image(1), "COMMIT 0 is no ANCESTOR of COMMIT 1, but an ELDER by the graft");
        is(parents(3), image(1) + ",0", "the other way round");
        carry(2, ";graft:1>0;merges:2");
        is(parents(2), "" + image(1), "by 2 it goes");
    }

    @Says("by 2 those that are an ANCESTOR of another one;")
    void mergesByTwo() {
        aside();
        carry(3, ";drop:b;merges:2");
        for (int k = 3; k < 7; k++) {
            is(parents(k), "2", "COMMIT " + k);
        }
        carry(3, ";merges:2");
        is(parents(3), "1,2", "none is an ANCESTOR of the other one");
        is(parents(4), "2,1", "none is an ANCESTOR of the other one");
        is(parents(5), "2", "an ANCESTOR goes");
    }

    @Says("by 3 as by 2, then, if there are two or more and TREE' is the TREE of some, the first such one alone stays.")
    void mergesByThree() {
        commits(":+a=1", "0:+b=1", "0:+c=1", "1,2:", "1,2:-b;^1c", "1,2:^1c", "0:+b=1;+z=1", "0:+b=1;+y=1",
            "6,7,2:-z", "7,2,6:-y", "0,1:", "0,2:+c=1");
        for (int k = 3; k < 12; k++) {
            if (k < 6 || k > 7) {
                is(x.ref(0, 1, k, k) > 0, true, "TAG");
            }
        }
        carry(2, ";empty:0;merges:3;drop:y;drop:z");
        is(parents(3), "1", "the TREE of the first one");
        is(parents(4), "2", "the TREE of the second one");
        is(parents(5), "1,2", "the TREE of none");
        is(parents(8), "" + image(6), "of two with its TREE the first");
        is(parents(9), "" + image(7), "of two with its TREE the first");
        is(parents(10), "1", "by 2 one is left: it stays, though the other one has its TREE");
        is(parents(11), "2", "by 2 one is left");
        carry(2, ";empty:0;merges:2;drop:y;drop:z");
        is(parents(3), "1,2", "by 2 both stay");
        is(parents(8).split(",").length, 3, "by 2 all stay");
    }

    @Says("by 3 as by 2, then, if there are two or more and TREE' is the TREE of some, the first such one alone stays.")
    void mergesByThreeOfNone() {
        commits(":+a=1", "0:+b=1", "0:+c=1", "1,2,0:-b", "0,1,2:", "1,0,2:-b", ":+d=1", "1,2,6:^1c", "6,2,1:-d;+a=1");
        for (int k = 3; k < 9; k++) {
            is(x.ref(0, 1, k, k) > 0, true, "TAG");
        }
        is(plan(0, "from:0;to:1;empty:0;merges:3"), 4, "plan");
        is(x.run(0), 9, "run");
        is(parents(3), "1,2", "what went by 2 does not stay for its TREE");
        is(parents(4), "1,2", "what went by 2 does not stay for its TREE");
        is(parents(5), "1,2", "what went by 2 does not stay for its TREE");
        is(parents(7), "1,2,6", "three, the TREE of none");
        is(parents(8), "6,2,1", "three, the TREE of none");
    }

    /** COMMITS 0, 1, 2 of WHO 0 and the same once more, 3, 4, of WHO 1: by a sign their IMAGES are one. */
    @Says("(Whether one goes is asked of all ahead of that.)")
    void askedOfAllAhead() {
        is(commit(":+a=1", 0, 1), 0, "COMMIT 0");
        is(commit("0:+b=1", 0, 2), 1, "COMMIT 1");
        is(commit("1:+c=1", 0, 3), 2, "COMMIT 2");
        is(commit(":+a=1", 1, 1), 3, "COMMIT 3");
        is(commit("3:+b=1", 1, 2), 4, "COMMIT 4");
        is(commit("4,0,2:+d=1", 0, 4), 5, "COMMIT 5");
        is(commit("0,4,2:+d=1", 0, 4), 6, "COMMIT 6");
        branch(0, 'b', 6);
        carry(5, ";sign:1>0;merges:1");
        is(image(4), 1, "the IMAGE of COMMIT 4");
        is(parents(5), "2", "COMMIT 0 goes for COMMIT 4, though that goes, too");
        is(parents(6), "2", "COMMIT 0 goes for COMMIT 4, though that goes, too");
    }

    // ---- EMPTY, SKIPPED, KEPT ----

    @Says("EMPTY it is without PARENTS' and without FILES in TREE', or with just one PARENT' whose TREE is TREE';")
    void empty() {
        commits(":+b=1", "0:+a=1", "1:+b=2", "2:-a", "1:", "4,1:", ":+a=1", "1,6:", ":");
        branch(0, 'b', 3);
        branch(0, 'c', 5);
        branch(0, 'd', 7);
        branch(0, 'e', 8);
        carry(1, ";drop:b");
        int[] fates = {EMPTY, KEPT, EMPTY, KEPT, EMPTY, EMPTY, KEPT, KEPT, EMPTY};
        int[] images = {-2, 9, 9, image(3), 9, 9, 6, image(7), -2};
        for (int k = 0; k < 9; k++) {
            is(fate(k), fates[k], "what COMMIT " + k + " is");
            is(image(k), images[k], "IMAGE of COMMIT " + k);
        }
        is(carried(1), ":a=1:", "without PARENTS', but with FILES");
        is(carried(3), "9::", "without FILES, but with a PARENT' that has some");
        is(carried(7), "9,6:a=1:", "with two PARENTS' of its TREE");
    }

    @Says("by empty 0 it never is; by 1 not, if it is so by itself (by its FORE and its TREE); by 2 always so.")
    void emptyByWhat() {
        commits(":", "0:", "1:+a=1", "2:", "3:+b=1", "4:-b", ":+b=2", "2,6:", "5,7:");
        branch(0, 'b', 8);
        int[][] due = {{0, 0, 0, 0, 0, 0, 0, 0, 0}, {0, 0, 0, 0, 1, 1, 1, 1, 0}, {1, 1, 0, 1, 1, 1, 1, 1, 1}};
        for (int empty = 0; empty < 3; empty++) {
            carry(8, ";drop:b;merges:2;empty:" + empty);
            for (int k = 0; k < 8; k++) {
                is(fate(k), due[empty][k], "what COMMIT " + k + " is by empty " + empty);
            }
        }
        carry(8, ";drop:b;merges:2");
        is(fate(0), EMPTY, "by 2 when none is told");
        carry(4, ";graft:3>0;drop:a;empty:1");
        is(fate(3), EMPTY, "by its FORE it is not so by itself: the TREE there is another one");
        carry(4, ";graft:2>.;graft:3>.;drop:a;empty:1");
        is(fate(3), EMPTY, "without FORE it has FILES");
        carry(6, ";graft:1>.;empty:1");
        is(fate(6), KEPT, "it has FILES");
        carry(3, ";graft:1>.;empty:1");
        is(fate(1), KEPT, "without FORE and FILES it is so by itself");
        is(plan(0, "from:0;to:1;graft:5>2;empty:1"), 4, "plan");
        branch(0, 'b', 5);
        is(x.run(0) > 0, true, "run");
        is(fate(5), KEPT, "by its FORE it is so by itself, not by its PARENTS");
    }

    @Says("SKIPPED it is if not EMPTY, with one PARENT' at most, and its WHO is skipped or its HOUR below since.")
    void skipped() {
        is(commit(":+a=1", 3, 9), 0, "COMMIT 0");
        is(commit("0:+b=1", 4, 10), 1, "COMMIT 1");
        is(commit("0:+c=1", 5, 11), 2, "COMMIT 2");
        is(commit("1,2:^1c", 3, 9), 3, "COMMIT 3");
        is(commit("3:", 3, 9), 4, "COMMIT 4");
        String[] lines = {"", ";skip:3", ";skip:4;skip:3;sign:3>9", ";skip:5;skip:4;skip:3", ";since:10", ";since:11", ";since:999"};
        int[][] due = {{0, 0, 0, 0, 1}, {2, 0, 0, 0, 1}, {2, 2, 0, 2, 2}, {2, 2, 2, 2, 2}, {2, 0, 0, 0, 1}, {2, 2, 0, 2, 2},
            {2, 2, 2, 2, 2}};
        for (int i = 0; i < lines.length; i++) {
            carry(4, lines[i]);
            for (int k = 0; k < 5; k++) {
                is(fate(k), due[i][k], "what COMMIT " + k + " is by " + lines[i]);
            }
        }
        String[] both = {";skip:4;since:10", ";since:11;skip:5", ";skip:5;since:10", ";skip:3;since:9"};
        int[][] dueOfBoth = {{2, 2, 0, 2, 2}, {2, 2, 2, 2, 2}, {2, 0, 2, 2, 2}, {2, 0, 0, 0, 1}};
        for (int i = 0; i < both.length; i++) {
            carry(4, both[i]);
            for (int k = 0; k < 5; k++) {
                is(fate(k), dueOfBoth[i][k], "what COMMIT " + k + " is by " + both[i]);
            }
        }
        carry(4, ";since:9;skip:9;skip:0;sign:3>9");
        is(x.planIs(0, 11), 0, "none is below, none of these WHO");
        carry(4, ";since:0");
        is(x.planIs(0, 11), 0, "none is below 0");
    }

    @Says("Its IMAGE is then that PARENT', or there is none.")
    void imageOfWhatIsLeftOut() {
        is(commit(":+a=1", 1, 1), 0, "COMMIT 0");
        is(commit("0:+b=1", 2, 1), 1, "COMMIT 1");
        is(commit("1:+c=1", 1, 1), 2, "COMMIT 2");
        is(commit("2:+b=2", 2, 1), 3, "COMMIT 3");
        carry(3, ";skip:1");
        is(image(0), -2, "SKIPPED, without PARENT'");
        is(carried(1), ":a=1;b=1:", "what comes behind has no PARENTS then");
        is(image(2), image(1), "SKIPPED, with a PARENT'");
        is(parents(3), "" + image(1), "what comes behind has that one");
        carry(3, ";keep:b");
        is(image(0), -2, "EMPTY, without PARENT'");
        is(image(2), image(1), "EMPTY, with a PARENT'");
        carry(3, ";keep:q");
        is(x.planIs(0, 12), 4, "all without IMAGE");
        is(x.historyIs(1, 0), 0, "no REF is laid");
    }

    @Says("Else it is KEPT, its IMAGE the COMMIT with PARENTS', TREE', MESSAGE', its HOUR, its WHO (that of a sign of it).")
    void kept() {
        is(commit(":+a=1:m", 0, 999), 0, "COMMIT 0");
        is(commit("0:+a=2:m", 9, 0), 1, "COMMIT 1");
        carry(1, ";move:a>b;sign:0>9;sign:9>5;sign:5>1;word:m>n");
        is(carried(0), ":b=1:n", "TREE' and MESSAGE'");
        is(carried(1), image(0) + ":b=2:n", "PARENTS'");
        is(x.commitIs(image(0), 1), 9, "WHO, signed once");
        is(x.commitIs(image(1), 1), 5, "WHO, signed once");
        is(x.commitIs(image(0), 2), 999, "HOUR");
        is(x.commitIs(image(1), 2), 0, "HOUR");
        is(x.count(0), 4, "new ones");
        carry(1, ";sign:1>2");
        is(image(1), 1, "what is there already is its IMAGE");
        is(x.count(0), 4, "no new ones");
    }

    // ---- MESSAGE' ----

    @Says("MESSAGE': piece by piece from the left.")
    void pieces() {
        commits(":+a=1", "0:+b=1:a1a#0a#0#", "1:+c=1:aa#aa##0");
        carry(2, ";move:a>z;word:a>bb;word:bb>c");
        is(message(1), "bb1bb#" + image(0) + "bb#" + image(0) + "#", "each piece once");
        is(message(2), "aa#aa##" + image(0), "a # behind a #");
        carry(2, ";word:a>b;word:aa>a");
        is(message(2), "a#a##0", "what was put there is read no more");
        carry(2, ";move:a>z");
        is(message(0), "", "none");
    }

    @Says("A MENTION is a # and the digits behind it (as many as there are), one to three, the first a 0 only if it is alone;")
    void mentions() {
        for (int i = 0; i < 102; i++) {
            is(commit(i == 0 ? ":+a=1" : (i - 1) + ":", 0, i), i, "COMMIT " + i);
        }
        String[] told = {"#", "#0", "#00", "#01", "#000", "#001", "#1", "#10", "#010", "#100", "#0100", "#1000", "#0a", "#a0",
            "##0", "#0#", "#101", "#102", "ab", "zz9", "a0", "xb#0xb", "0", "101"};
        String[] due = {"#", "#I", "#00", "#01", "#000", "#001", "#I", "#I", "#010", "#I", "#0100", "#1000", "#Ia", "#a0",
            "##I", "#I#", "#I", "#102", "ab", "zz9", "a0", "xb#Ixb", "0", "101"};
        x.keep();
        for (int i = 0; i < told.length; i++) {
            x.undo();
            is(commit("101:+b=1:" + told[i], 1, 0), 102, "COMMIT 102");
            carry(102, ";skip:0;sign:1>2");
            is(message(102), due[i].replace("I", "?"), "of one without IMAGE: " + told[i]);
            carry(102, ";sign:1>2");
            is(message(102), due[i].replace("I", "0"), "of EMPTY ones: " + told[i]);
        }
    }

    @Says("A MENTION is a # and the digits behind it (as many as there are), one to three, the first a 0 only if it is alone;")
    void allMentions() {
        for (int i = 0; i < 113; i++) {
            is(commit(i == 0 ? ":+a=0" : (i - 1) + ":+a=" + i, 0, 0), i, "COMMIT " + i);
        }
        x.keep();
        for (int i = 0; i < 1000; i++) {
            x.undo();
            is(commit("112:+a=123456:#" + i, 1, 0), 113, "COMMIT 113");
            carry(113, ";skip:0;sign:1>2");
            is(message(113), i < 113 ? "#?" : "#" + i, "#" + i + " of ELDERS without IMAGE");
            carry(113, ";sign:1>2");
            is(message(113), "#" + i, "#" + i + " of ELDERS that are their own IMAGES");
        }
    }

    @Says("of one that names an ELDER the digits become the number of its IMAGE (none: a ?).")
    void whatMentionsBecome() {
        commits(":+a=1", "0:+b=1", ":+c=1", "1:+d=1:#0#1#2#3#4#9", "3:+e=1");
        branch(0, 'b', 2);
        branch(0, 'c', 4);
        carry(3, ";move:b>y");
        is(message(3), "#0#" + image(1) + "#2#3#4#9", "ELDERS alone");
        carry(3, ";drop:a;move:b>y");
        is(message(3), "#?#" + image(1) + "#2#3#4#9", "one without IMAGE");
        carry(3, ";keep:d;keep:c;keep:e");
        is(message(3), "#?#?#2#3#4#9", "both without IMAGE");
        branch(1, 'z', x.image(0, 3, 0));
        is(plan(1, "from:1;to:2;move:d>a"), 3, "a PLAN for what was carried");
        is(x.run(1) > 0, true, "run");
        is(spelt(x.image(1, x.image(0, 3, 0), 0)).split(":", -1)[2], "#?#?#2#3#4#9", "a ? stays");
        fill(100);
        commits("4:+f=1:#0#1");
        is(x.count(0), 101, "COMMITS");
        branch(0, 'c', 100);
        carry(3, ";move:a>x;empty:1");
        is(message(100), "#" + image(0) + "#" + image(1), "of three digits");
        is(image(0) > 100, true, "of three digits");
    }

    @Says("of one that names an ELDER the digits become the number of its IMAGE (none: a ?).")
    void mentionsOfOthers() {
        commits(":+a=1", "0:+b=1", "0:+c=1", "1:+d=1:#2#1#0", "2:+e=1:#1#2#3#0", "3,4:+f=1:#1#2#3#4");
        branch(0, 'b', 4);
        carry(3, ";move:a>z");
        is(image(2) > 5, true, "MAPPED, with another IMAGE");
        is(message(3), "#2#" + image(1) + "#" + image(0), "what is MAPPED, but no ELDER, stays");
        is(message(4), "#1#" + image(2) + "#3#" + image(0), "what is MAPPED, but no ELDER, stays");
        carry(5, ";move:a>z");
        String due = "";
        for (int k = 1; k < 5; k++) {
            due += "#" + image(k);
        }
        is(message(5), due, "ELDERS by both PARENTS");
    }

    @Says("Letters (as many as stand there) that are the first WORD of a word become its second one. All else stays.")
    void wordsOfAMessage() {
        commits(":+a=1:abcd1abcde", "0:+a=2:a#a1aa", "1:+a=3:123#4#abc", "2:+a=4:zabz");
        carry(3, ";word:abcd>z;word:a>yyyy;word:abc>b;word:ab>q");
        is(message(0), "z1abcde", "four letters are a WORD, five are none");
        is(message(1), "yyyy#yyyy1aa", "behind a #, between digits");
        is(message(2), "123#4#b", "digits stay");
        is(message(3), "zabz", "what is in the middle is none");
        carry(3, ";word:zabz>q;word:zz>y;word:z>x");
        is(message(3), "q", "z is a letter as others are");
        carry(3, ";word:z>x;word:ab>q;word:bz>y");
        is(message(3), "zabz", "what is at its ends is none");
        carry(3, ";word:abcd>abc;word:abc>abcd");
        is(message(0), "abc1abcde", "once");
        carry(3, ";empty:0");
        is(message(0), "abcd1abcde", "without words all stays");
    }

    @Says("What is behind the 24th byte then is cut off.")
    void cutOff() {
        commits(":+a=1:a1a1a1a1a1a1", "0:+a=2:aa1a1a1a1a1a", "1:+a=3:b#0b#0b#0b#0");
        carry(2, ";word:a>abc");
        is(message(0), "abc1abc1abc1abc1abc1abc1", "24 bytes stay");
        is(message(1), "aa1abc1abc1abc1abc1abc", "22 bytes stay");
        carry(2, ";word:a>abc;word:aa>abcd");
        is(message(1), "abcd1abc1abc1abc1abc1abc", "24 bytes stay");
        carry(2, ";word:a>abcd");
        is(message(0), "abcd1abcd1abcd1abcd1abcd", "of 30 bytes 24 stay");
        carry(2, ";word:b>wxyz");
        is(message(2), "wxyz#0wxyz#0wxyz#0wxyz#0", "24 bytes stay");
        fill(100);
        carry(2, ";word:b>wxy;move:a>c");
        is(image(0), 100, "an IMAGE of three digits");
        is(message(2), "wxy#100wxy#100wxy#100wxy", "a MENTION is cut off");
        carry(2, ";word:b>w;move:a>d");
        is(image(0), 103, "an IMAGE of three digits");
        is(message(2), "w#103w#103w#103w#103", "20 bytes stay");
    }

    @Says("What is behind the 24th byte then is cut off.")
    void cutOffInThePieces() {
        commits(":+a=1", "0:+a=2:1b#0#0#0#0#0", "0:+a=3:b1b1#0#0#0#0", "0:+a=4:b1b1b1#0#0#0", "0:+a=5:11b1b1b1b1b#");
        fill(100);
        for (int k = 1; k < 5; k++) {
            branch(0, (char) ('b' + k), k);
        }
        carry(1, ";word:b>wxyz;move:a>c");
        is(image(0), 100, "an IMAGE of three digits");
        is(message(1), "1wxyz#100#100#100#100#10", "the last digit of a MENTION is cut off");
        is(message(2), "wxyz1wxyz1#100#100#100#1", "two digits are");
        is(message(3), "wxyz1wxyz1wxyz1#100#100#", "all digits are");
        is(message(4), "11wxyz1wxyz1wxyz1wxyz1wx", "what a word became is cut off, and a #");
    }

    // ---- a RUN ----

    @Says("A RUN: the COMMITS of the PLAN that are not MAPPED yet are REWRITTEN, rising (and MAPPED, with or without IMAGE).")
    void aRun() {
        commits(":+b=1", "0:+a=1");
        branch(0, 'a', 1);
        is(plan(0, "from:0;to:1;drop:b"), 3, "plan");
        is(x.run(0), 2, "REWRITTEN");
        is(x.planIs(0, 8), 2, "MAPPED, one of them without IMAGE");
        is(x.run(0), 0, "none is left");
        is(carried(1), ":a=1:", "COMMIT 1 carried");
        commits("1:+b=2", "3:+c=1");
        is(x.run(0), 0, "no REF is there");
        branch(0, 'a', 4);
        is(x.run(0), 2, "those behind");
        is(parents(4), "2", "of PARENTS that were MAPPED");
        branch(0, 'a', 0);
        is(x.run(0), 0, "none is left");
        is(x.planIs(0, 8), 4, "what was MAPPED stays");
        is(x.ref(0, 0, 0, -1), 0, "no REF");
        is(x.run(0), 0, "none is left");
        is(x.planIs(0, 8), 4, "what was MAPPED stays");
    }

    @Says("A RUN: the COMMITS of the PLAN that are not MAPPED yet are REWRITTEN, rising (and MAPPED, with or without IMAGE).")
    void runsByTurns() {
        commits(":+a=1", "0:+b=1");
        branch(0, 'a', 1);
        for (int p = 0; p < 4; p++) {
            is(plan(p, "from:0;to:" + (p == 2 ? 3 : p == 3 ? 2 : 1) + ";move:a>" + (char) ('k' + p)), 3, "plan");
            is(x.run(p), 2, "run");
            is(x.image(p, 0, 0) * 100 + x.image(p, 1, 0), 203 + 202 * p, "IMAGES");
        }
        commits("1:+c=1", "10:+d=1:#0#1#10");
        is(x.count(0), 12, "COMMITS");
        branch(0, 'a', 11);
        for (int p = 3; p >= 0; p--) {
            is(x.run(p), 2, "it goes on");
            is(x.image(p, 0, 0) * 100 + x.image(p, 1, 0), 203 + 202 * p, "IMAGES stay");
            is(spelt(x.image(p, 10, 0)).split(":")[0], "" + (3 + 2 * p), "its PARENT is of this PLAN");
            is(spelt(x.image(p, 10, 0)).split(":")[1], "b=1;c=1;" + (char) ('k' + p) + "=1", "its TREE");
            is(spelt(x.image(p, 11, 0)).split(":")[2], "#" + x.image(p, 0, 0) + "#" + x.image(p, 1, 0) + "#" + x.image(p, 10, 0),
                "what it names is of this PLAN");
        }
    }

    @Says("Then those REFS of the to HISTORY go that a PLAN of this number laid last (none told, laid since);")
    void refsThatGo() {
        commits(":+a=1", "0:+b=1");
        branch(0, 'a', 0);
        branch(0, 'b', 0);
        branch(0, 'c', 0);
        tag(0, 'a', 0);
        branch(2, 'c', 1);
        branch(1, 'z', 1);
        is(plan(0, "from:0;to:1"), 2, "PLAN 0");
        is(plan(3, "from:2;to:1"), 2, "PLAN 3");
        is(x.run(0), 1, "run");
        is(refs(1), "ba0/0 bb0/0 bc0/0 bz1 ta0/0", "REFS laid");
        is(x.ref(1, 0, 1, 0), 5, "BRANCH b is told");
        is(x.run(3), 2, "PLAN 3 lays BRANCH c");
        is(refs(1), "ba0/0 bb0 bc1/3 bz1 ta0/0", "REFS told, laid since");
        for (int letter = 0; letter < 3; letter++) {
            is(x.ref(0, 0, letter, -1) >= 0, true, "a BRANCH goes");
        }
        is(x.ref(0, 1, 0, 1), 1, "the TAG elsewhere");
        is(plan(0, "from:0;to:1;tags:0"), 3, "PLAN 0 told anew");
        is(x.run(0), 2, "run");
        is(refs(1), "bb0 bc1/3 bz1", "those that a PLAN of this number laid went");
        is(plan(0, "from:0;to:3"), 2, "PLAN 0 told anew");
        is(plan(3, "from:2;to:3"), 2, "PLAN 3 told anew");
        is(x.run(3), 2, "run");
        is(refs(1), "bb0 bc1/3 bz1", "REFS of what is no to HISTORY stay");
        is(refs(3), "bc1/3", "REFS laid");
    }

    @Says("then, in order, each BRANCH of from is laid at the IMAGE of its COMMIT (none: it is not), in place of one of its letter;")
    void branchesLaid() {
        commits(":+b=1", "0:+a=1", "1:+b=2");
        branch(0, 'a', 0);
        branch(0, 'b', 1);
        branch(0, 'c', 2);
        branch(1, 'a', 2);
        branch(1, 'b', 2);
        branch(1, 'd', 2);
        is(plan(2, "from:0;to:1;drop:b"), 3, "plan");
        is(x.run(2), 3, "run");
        is(refs(1), "ba2 bb3/2 bc3/2 bd2", "none without IMAGE, in place, beside, untouched");
        is(refs(0), "ba0 bb1 bc2", "REFS of from stay");
        for (int tags = 0; tags < 3; tags++) {
            is(plan(2, "from:0;to:" + (tags + 1) + ";drop:b;tags:" + tags) > 0, true, "plan");
            is(x.run(2), 3, "run");
            is(refs(tags + 1), tags == 0 ? "ba2 bb3/2 bc3/2 bd2" : "bb3/2 bc3/2", "BRANCHES by tags " + tags);
        }
    }

    @Says("TAGS so, too: by tags 0 none, by 1 those alone whose COMMIT is KEPT, by 2 all.")
    void tagsLaid() {
        is(commit(":+b=1", 0, 1), 0, "without IMAGE");
        is(commit("0:+a=1", 0, 1), 1, "KEPT");
        is(commit("1:+b=2", 0, 1), 2, "EMPTY");
        is(commit("2:+a=2", 7, 1), 3, "SKIPPED");
        for (int k = 0; k < 4; k++) {
            tag(0, (char) ('a' + k), k);
        }
        tag(1, 'a', 3);
        tag(1, 'b', 3);
        tag(1, 'c', 3);
        branch(1, 'b', 3);
        String[] due = {"bb3 ta3 tb3 tc3", "bb3 ta3 tb4/0 tc3", "bb3 ta3 tb4/0 tc4/0 td4/0", "bb3 ta3 tb4/0 tc4/0 td4/0"};
        x.keep();
        for (int tags = 0; tags < 4; tags++) {
            x.undo();
            is(plan(0, "from:0;to:1;drop:b;skip:7" + (tags < 3 ? ";tags:" + tags : "")) > 0, true, "plan");
            is(x.run(0), 4, "run");
            is(refs(1), due[tags], "REFS by tags " + tags);
        }
    }

    @Says("ANEW: as a RUN with nothing MAPPED before.")
    void anew() {
        commits(":+a=1", "0:+b=1", "1:+c=1");
        carry(2, ";drop:b");
        is(image(2), 3, "IMAGE");
        branch(0, 'a', 1);
        is(plan(3, "from:1;to:0"), 2, "a PLAN back");
        is(x.run(0), 0, "nothing is left");
        is(x.planIs(0, 8), 3, "MAPPED");
        is(x.again(0), 0, "ANEW");
        is(x.planIs(0, 8), 2, "MAPPED");
        is(x.image(0, 2, 0), -4, "no more MAPPED");
        is(refs(1), "ba0/0", "REFS");
        is(x.ref(0, 0, 0, -1), 0, "no REF");
        is(x.again(0), 0, "ANEW");
        is(x.planIs(0, 8), 0, "MAPPED");
        is(refs(1), "", "REFS");
    }
}
