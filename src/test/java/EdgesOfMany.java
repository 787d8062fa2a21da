/**
 * Sentences asked once more of many: of the third PARENT, of the last of many FILES, REFS and LINES, of PLANS and
 * HISTORIES of other numbers. A test with one or two of a thing would miss what goes wrong with the next one.
 */
final class EdgesOfMany extends Desk {
    /** FILES a to n with CONTENT 1, fourteen of them. */
    private static final String FOURTEEN = "+a=1;+b=1;+c=1;+d=1;+e=1;+f=1;+g=1;+h=1;+i=1;+j=1;+k=1;+l=1;+m=1;+n=1";

    private int image(int p, int k) {
        return x.image(p, k, 0);
    }

    // ---- many FILES ----

    @Says("of each but - a FILE is at a BEGINNING of where it would come (of a ^ by which nothing comes: none);")
    void aFileAheadBehindMany() {
        commits(":" + FOURTEEN, "0:-n;+n/x=1");
        fault("0:+n/x=1", -7002);
        fault("0:*a>n/x", -7002);
        fault("0,1:^1n/x", -7004);
        fault("0:+g/x=1", -7002);
        fault("0:*a>g/x/y", -7002);
    }

    @Says("5 (of *) a PATH would have more than 6 NAMES;")
    void tooManyNamesBehindMany() {
        commits(":+a/b=1;+a/c=1;+a/d=1;+a/e=1;+a/f=1;+a/g/h/i=1");
        fault("0:*a>p/q/r/s", -5002);
        is(commit("0:*a>p/q/r", 0, 0), 1, "six NAMES");
        is(commit("0:-a/g/h;*a>p/q/r/s", 0, 0), 2, "five NAMES");
        fault("0:+q/b=1;*a>p/q/r/s", -5009);
    }

    @Says("LOST is one TAKEN that has no NAMES then, or more than 6,")
    void lostBehindMany() {
        commits(":" + FOURTEEN + ";+y/a=2;+y/g=2");
        carry(0, ";move:y>.");
        is(x.tried(0, 0, 2), 2, "the PATHS of the first one and of the seventh one");
        is(carried(0), ":a=1;b=1;c=1;d=1;e=1;f=1;g=1;h=1;i=1;j=1;k=1;l=1;m=1;n=1:", "TREE'");
        carry(0, ";move:y>n");
        is(x.tried(0, 0, 2), 2, "the last one is a BEGINNING of these");
        carry(0, ";move:y/g>n;move:y/a>n/a");
        is(x.tried(0, 0, 2), 2, "the PATH of the last one, and one below it");
    }

    @Says("or whose PATH then is that of a FILE taken over already (they come in order of their old PATHS; one LOST is not taken over), a BEGINNING of it, or has it as a BEGINNING.")
    void lostAheadOfMany() {
        commits(":+a=1;+b=1;+c=1;+d=1;+e/f=1;+m=2;+n=3;+o=4");
        carry(0, ";move:m>e;move:n>e/f;move:o>e/f/g");
        is(x.tried(0, 0, 2), 3, "a BEGINNING, the PATH, one below");
        is(carried(0), ":a=1;b=1;c=1;d=1;e/f=1:", "TREE'");
    }

    @Says(promise = 8, value = "-6: a PATH has unlike CONTENTS, or is a BEGINNING of one of the other TREE;")
    void joinUnlikeBehindMany() {
        commits(":" + FOURTEEN, ":+n=2", ":+n/x=1", ":+z=1", ":+m/x=1");
        int[] due = {-6, -6, 5, -6};
        for (int k = 1; k < 5; k++) {
            branch(0, 'y', 0);
            branch(0, 'z', k);
            is(x.join(0, 24, 25, 0, 0), due[k - 1], "with " + spelt(k));
            branch(0, 'y', 0);
            is(x.join(0, 25, 24, 9, 9), due[k - 1] < 0 ? due[k - 1] : 6, "with " + spelt(k) + ", the other way round");
        }
    }

    @Says(promise = 9, value = "-6: a PATH is neither as it was nor as it is, or would be a BEGINNING of another one's;")
    void replayUnlikeBehindMany() {
        commits(":" + FOURTEEN, "0:+a=2;+c=2;+e=2;+g=2;+i=2;+m=2;+n=2", ":" + FOURTEEN.replace("n=1", "n=3"),
            ":" + FOURTEEN.replace("g=1", "g/g=1"), ":+a=1;+z=1", "4:+b=1;+d=1;+f=1;+h=1",
            "4:-z;+z/y=1;+b=1;+c=1;+d=1;+e=1");
        branch(0, 'a', 2);
        is(x.replay(0, 0, 1), -6, "the last one is unlike");
        branch(0, 'a', 3);
        is(x.replay(0, 0, 1), -6, "one in the middle is a FOLDER");
        branch(0, 'a', 5);
        is(x.replay(0, 0, 6), 7, "FOLDER z comes in place of FILE z");
        is(spelt(7), "5:a=1;b=1;c=1;d=1;e=1;f=1;h=1;z/y=1:", "all come");
        commits(":+a=1;+z=1;+y=1;+x=1;+w=1;+v/v=1", "8:+b=1;+c=1;+d=1;+e=1;+v/z=1", ":" + FOURTEEN.substring(0, 24) + ";+v=1");
        branch(0, 'a', 10);
        is(x.replay(0, 0, 9), -6, "the last PATH has a FILE as a BEGINNING");
    }

    @Says("Its CHANGE: from the TREE of the first PARENT (none: without FILES) which PATHS are GONE, which NEW or CHANGED, to which CONTENT.")
    void changesOfMany() {
        commits(":" + FOURTEEN, ":" + FOURTEEN.replace("n=1", "n=2"), ":" + FOURTEEN.replace("n=1", "o=1"), ":" + FOURTEEN);
        is(commit(":" + FOURTEEN, 5, 5), 4, "a like one");
        for (int k = 0; k < 5; k++) {
            is(x.ref(2, 1, k, k), k + 1, "TAG");
        }
        is(x.picked(2, 0), 3, "neither unlike in the last CONTENT nor in the last PATH");
        is(x.picked(2, 3), 0, "the lowest");
        is(x.picked(2, 1), -2, "none");
        is(x.picked(2, 2), -2, "none");
    }

    @Says(promise = 12, value = "3 how many FILES and FOLDERS stand in the FOLDER itself (none: 0);")
    void entriesBehindOthers() {
        commits(":+a=1;+b/c/x=1;+b/c/y=1;+b/c/z=1;+b/d=1;+b/e/f/g=1;+b/e/f/h=1;+b/e/g=1;+c=1;+d/d=1");
        is(look(0, "b", 3), 3, "c, d, e");
        is(look(0, "b/c", 3), 3, "x, y, z");
        is(look(0, "b/e", 3), 2, "f, g");
        is(look(0, "b/e/f", 3), 2, "g, h");
        is(look(0, "d", 3), 1, "d");
        is(look(0, "b/d", 3), 0, "a FILE");
    }

    // ---- three PARENTS ----

    @Says("Those of like PARENTS (in their order), TREE, MESSAGE, WHO and HOUR are one: what comes that is there already is that one.")
    void unlikeInTheThirdParent() {
        commits(":+a=1", ":+b=1", ":+c=1", ":+d=1");
        is(commit("0,1,2:", 0, 0), 4, "three PARENTS");
        is(commit("0,1,3:", 0, 0), 5, "another third one");
        is(commit("0,1:", 0, 0), 6, "no third one");
        is(commit("0,1,2:", 0, 0), 4, "it is there already");
        is(commit("0,1,3:", 0, 0), 5, "it is there already");
        is(commit("0,2,1:", 0, 0), 7, "another order");
    }

    @Says("A COMMIT TOUCHES a PATH if what is there (a FILE and its CONTENT, a FOLDER and all below it, nothing) is unlike that at each of its PARENTS;")
    void touchesOfThreeParents() {
        commits(":+a=1", ":+a=2", ":+a=3", "0,1,2:+a=3", "0,1,2:+a=4", "0,1,2:+a=2", "0,1,2:");
        int[] due = {3, 4, 3, 3};
        for (int k = 3; k < 7; k++) {
            branch(0, 'a', k);
            is(touches(0, "a"), due[k - 3], "TOUCHES of " + spelt(k));
        }
    }

    @Says(promise = 19, value = "4 without CHILDREN in it,")
    void childrenOfThreeParents() {
        commits(":+a=1", ":+b=1", ":+c=1", "0,1,2:+d=1");
        branch(3, 'a', 3);
        is(x.historyIs(3, 4), 1, "COMMIT 3 alone");
        branch(3, 'b', 2);
        is(x.historyIs(3, 4), 1, "COMMIT 3 alone");
        is(x.historyIs(3, 3), 1, "with two or more");
        for (int k = 0; k < 3; k++) {
            is(x.commitIs(k, 7), 1, "CHILDREN of COMMIT " + k);
        }
    }

    @Says("LISTING of a HISTORY: one by one, of its COMMITS whose CHILDREN in it are all listed, the one of the greatest HOUR (of like ones the greatest number).")
    void listingOfThreeParents() {
        is(commit(":+a=1", 0, 50), 0, "COMMIT 0");
        is(commit(":+b=1", 0, 70), 1, "COMMIT 1");
        is(commit(":+c=1", 0, 60), 2, "COMMIT 2");
        is(commit("0,1,2:", 0, 10), 3, "COMMIT 3");
        is(commit("2,1,0:", 0, 20), 4, "COMMIT 4");
        branch(1, 'a', 3);
        branch(1, 'b', 4);
        int[] due = {4, 3, 1, 2, 0, -4};
        for (int i = 0; i < due.length; i++) {
            is(x.listing(1, i), due[i], "listing " + i);
        }
    }

    @Says("ORIGIN of a FILE of a COMMIT: step by step to the first PARENT that has a FILE at its PATH, to this;")
    void originByTheThirdParent() {
        commits(":+a=1", ":+b=1", ":+c=1234", "0,1,2:+c=1235", "0,1,2:+d=1234", "3:+b=9", "4:+b=9");
        is(x.origin(3, 1, 0), 2, "the third PARENT has it");
        is(x.origin(3, 1, 2), 1, "unlike CONTENTS");
        is(x.origin(4, 1, 0), 2, "from the third PARENT on it is RENAMED");
        is(x.origin(4, 1, 3), 1, "RENAMED");
        is(x.origin(5, 2, 0), 2, "the third PARENT has it");
        is(x.origin(6, 2, 0), 2, "from the third PARENT on it is RENAMED");
    }

    @Says("none has: to the first PARENT from which on it is RENAMED, to the FILE that it was there; none: there it is.")
    void originOfFilesThatMove() {
        commits(":+z=11", "0:", "1:+a=22", "2:+b=33", "3:*z>y", "4:+c=44;-a", "5:+d=55;*y>x;+e=66");
        int[] files = {0, 0, 1, 2, 2, 2, 4};
        for (int k = 0; k < 7; k++) {
            is(x.origin(k, files[k], 0), 0, "ORIGIN of FILE " + files[k] + " of " + spelt(k));
            is(x.origin(k, files[k], 1), 0, "the FILE there");
            is(x.origin(k, files[k], 3), k < 4 ? 0 : k < 6 ? 1 : 2, "RENAMED");
        }
        is(x.origin(6, 0, 0), 3, "ORIGIN of b");
        is(x.origin(6, 0, 1), 1, "the FILE there");
        is(x.origin(6, 1, 0), 5, "ORIGIN of c");
        is(x.origin(6, 3, 0), 6, "ORIGIN of e");
    }

    @Says("RENAMED: a FILE GONE and one NEW with a LIKENESS of 0.6 (as a float) at least, the greatest first (of like ones the lowest one GONE, then the lowest NEW), each FILE once.")
    void manyPairs() {
        commits(":+a=111111;+b=222222;+c=333333;+d=444444;+e=555555;+f=666666;+g=777777;+h=888888",
            "0:*a>z/h;*b>z/g;*c>z/f;*d>z/e;*e>z/d;*f>z/c;*g>z/b;*h>z/a");
        is(x.diff(0, 1, 3), 8, "pairs");
        for (int i = 0; i < 8; i++) {
            is(x.renamed(0, 1, i, 0), i, "the FILE that was of pair " + i);
            is(x.renamed(0, 1, i, 1), 7 - i, "the FILE that is of pair " + i);
            is(x.origin(1, i, 0), 0, "ORIGIN of FILE " + i);
            is(x.origin(1, i, 1), 7 - i, "the FILE there");
        }
        is(x.renamed(0, 1, 8, 0), -4, "not so many");
    }

    @Says("by 3 as by 2, then, if there are two or more and TREE' is the TREE of some, the first such one alone stays.")
    void mergesByThreeOfTheThird() {
        commits(":+a=1", ":+b=1", ":+c=1", "0,1,2:-a;^2c", "0,1,2:", "2,0,1:", "0,2,1:-a;^2b");
        for (int k = 3; k < 7; k++) {
            carry(k, ";empty:0;merges:3");
            is(carried(k).split(":")[0], k == 3 || k == 5 ? "2" : k == 4 ? "0" : "1", "the one of its TREE of " + spelt(k));
        }
    }

    @Says(promise = 23, value = "The fewest steps to a PARENT from COMMIT k to COMMIT j (itself: 0);")
    void waysByMany() {
        commits(":", "0:", "1:", "1:", "3:", "4,2:");
        is(x.way(0, 5), 3, "by COMMITS 2 and 1");
        is(x.way(1, 5), 2, "by COMMIT 2");
        is(x.way(3, 5), 2, "by COMMIT 4");
        commits("5:", "6:", "4,5,7:", "8:", "9,1:");
        is(x.way(2, 7), 3, "by the second PARENT of COMMIT 5");
        is(x.way(0, 7), 5, "by the second PARENT of COMMIT 5");
        is(x.way(2, 9), 3, "by the second PARENT of COMMIT 8, then of COMMIT 5");
        is(x.way(7, 9), 2, "by the third PARENT of COMMIT 8");
        is(x.way(6, 9), 3, "by the third PARENT of COMMIT 8");
        is(x.way(0, 10), 2, "by the second PARENT of COMMIT 10");
        is(x.way(4, 10), 3, "by COMMITS 9 and 8");
        is(x.way(3, 10), 4, "by COMMITS 9, 8 and 4");
    }

    @Says("HALVING is the one of which the lesser of its WEIGHT and the rest is greatest (of like ones the lowest).")
    void halvingBehindAHeavyOne() {
        commits(":+a=1", ":+b=1", ":+c=1", "0,1,2:", "0,1:", "3,4:", ":+d=1");
        is(x.halving(6, 5, 0), 6, "BETWEEN");
        is(x.halving(6, 5, 1), 4, "three of six, behind one of four");
        is(x.halving(6, 5, 2), 3, "its WEIGHT");
        is(x.halving(6, 3, 1), 0, "one of four: the lowest");
        is(x.halving(0, 5, 0), 5, "BETWEEN");
        is(x.halving(0, 5, 1), 3, "three of five, as two of five: the lowest");
        is(x.halving(0, 5, 2), 3, "its WEIGHT");
    }

    // ---- greater and lesser, longer and shorter ----

    @Says(promise = 27, value = "-4: there are not so many FILES;")
    void likenessFarBehindTheLast() {
        commits(":+a=1;+b=2;+c=3", "0:-b;-c", ":");
        for (int i = 0; i < 16; i++) {
            is(x.likeness(1, i, 0, 0, 1), i < 1 ? 100 : -4, "FILE " + i + " of one");
            is(x.likeness(0, 0, 1, i, 1), i < 1 ? 100 : -4, "FILE " + i + " of one");
            is(x.likeness(2, i, 0, 0, 0), -4, "FILE " + i + " of none");
            is(x.likeness(0, 0, 2, i, 0), -4, "FILE " + i + " of none");
            is(x.likeness(0, i, 0, 0, 0) == -4, i >= 3, "FILE " + i + " of three");
            is(x.origin(1, i, 0), i < 1 ? 0 : -4, "ORIGIN of FILE " + i + " of one");
        }
    }

    @Says("A COMMIT TOUCHES a PATH if what is there (a FILE and its CONTENT, a FOLDER and all below it, nothing) is unlike that at each of its PARENTS;")
    void touchesByALesserContent() {
        commits(":+a=9;+f/g=9;+f/h=1", "0:+a=1", "0:+f/g=1", "0:+a=99", "0:+f/h=2", "0:+f/g=1;+f/h=9");
        int[] dueOfA = {1, 2, 1, 2, 1, 1};
        int[] dueOfF = {1, 1, 2, 1, 2, 2};
        for (int k = 0; k < 6; k++) {
            branch(0, 'a', k);
            is(touches(0, "a"), dueOfA[k], "TOUCHES of a up to COMMIT " + k);
            is(touches(0, "f"), dueOfF[k], "TOUCHES of f up to COMMIT " + k);
        }
    }

    @Says("Those of like PARENTS (in their order), TREE, MESSAGE, WHO and HOUR are one: what comes that is there already is that one.")
    void unlikeInTheMessage() {
        String[] messages = {"b", "a", "c", "ab", "ba", "bb", "", "b1", "b0", "#b", "a23456789012", "a23456789013", "a23456789011"};
        for (int round = 0; round < 2; round++) {
            for (int i = 0; i < messages.length; i++) {
                is(commit(":+a=1:" + messages[i], 3, 4), i, "the COMMIT of MESSAGE " + messages[i]);
            }
        }
    }

    @Says("UNDONE: as they were SAVED last.")
    void unlikeInTheMessageOfWhatIsUndone() {
        is(x.keep(), 0, "keep");
        is(commit(":+a=1:abcdef", 3, 4), 0, "six bytes");
        is(x.undo(), true, "undo");
        is(commit(":+a=1:abc", 3, 4), 0, "three bytes");
        is(commit(":+a=1:abcdef", 3, 4), 1, "another one");
        is(spelt(0), ":a=1:abc", "COMMIT 0");
        is(spelt(1), ":a=1:abcdef", "COMMIT 1");
    }

    @Says(promise = 31, value = "The lowest COMMIT of HISTORY h, not k, with a CHANGE as that of COMMIT k;")
    void pickedOfAShorterChange() {
        commits(":+a=2;+b=1", ":+a=1", ":+a=1;+b=1", ":", ":+a=1;+b=1;+c=1", ":+b=1");
        for (int k = 0; k < 6; k++) {
            is(x.ref(1, 1, k, k), k + 1, "TAG");
        }
        for (int k = 0; k < 6; k++) {
            is(x.picked(1, k), -2, "none as COMMIT " + k);
        }
    }

    // ---- many REFS, HISTORIES, LINES, PLANS ----

    @Says("Of the moves whose first PLACE is its PATH, a BEGINNING of it, or . , that of the most NAMES:")
    void movesInAnyOrder() {
        commits(":+a/b/c/d=1");
        String[] lines = {"move:.>w", "move:a>x", "move:a/b>y", "move:a/b/c>z"};
        for (int i = 0; i < 24; i++) {
            StringBuilder all = new StringBuilder();
            boolean[] told = new boolean[4];
            for (int left = 4, rest = i; left > 0; rest /= left, left--) {
                int skip = rest % left;
                for (int j = 0; j < 4; j++) {
                    if (!told[j] && skip-- == 0) {
                        told[j] = true;
                        all.append(';').append(lines[j]);
                        break;
                    }
                }
            }
            carry(0, all.toString());
            is(carried(0), ":z/d=1:", "TREE' by " + all);
            carry(0, all.toString().replace("move:a/b/c>z", "move:a/b/d>z"));
            is(carried(0), ":y/c/d=1:", "TREE' by " + all + " without the longest");
        }
    }

    @Says("6 a move, swap, word, graft, sign of what one of these tells already ahead of its >, where the word begins (asked when that ends);")
    void toldAlreadyByALaterLine() {
        commits(":", "0:", "1:", "2:");
        String[] words = {"move:%>z", "swap:%>9", "word:%>z", "graft:%>.", "sign:%>9"};
        String[] ones = {"abcd", "1234", "abcd", "0123", "1234"};
        for (int w = 0; w < words.length; w++) {
            for (int n = 2; n < 5; n++) {
                for (int again = 0; again < n - 1; again++) {
                    StringBuilder text = new StringBuilder("from:0;to:1");
                    for (int i = 0; i < n - 1; i++) {
                        text.append(';').append(words[w].replace('%', ones[w].charAt(i)));
                    }
                    int place = text.length() + 1;
                    planFault(text + ";" + words[w].replace('%', ones[w].charAt(again)), -6000 - place);
                    is(plan(1, text + ";" + words[w].replace('%', ones[w].charAt(n - 1))), 2 + n, "another one");
                }
            }
        }
    }

    @Says("COMMITS of a HISTORY: those that REFS are at and their ANCESTORS.")
    void commitsOfManyRefs() {
        for (int k = 0; k < 8; k++) {
            is(commit(":+a=" + k, 0, k), k, "COMMIT " + k);
            is(x.ref(2, k % 2, 25 - k, k), k + 1, "REF");
            is(x.historyIs(2, 1), k + 1, "COMMITS");
            is(x.historyIs(2, 2), k + 1, "without PARENTS");
            is(x.historyIs(2, 6), k + 1, "unlike TREES");
        }
        is(x.apart(2, 0, 0), 8, "in HISTORY 2 alone");
    }

    @Says("COMMITS of a PLAN: those that REFS of its from HISTORY are at, and ELDERS of these.")
    void commitsOfAPlanOfManyRefs() {
        for (int k = 0; k < 8; k++) {
            is(commit(":+a=" + k, 0, k), k, "COMMIT " + k);
            is(x.ref(3, 1 - k % 2, k, k), k + 1, "REF");
        }
        is(plan(3, "from:3;to:2"), 2, "plan");
        is(x.sound(3, 5), 8, "not MAPPED");
        is(x.run(3), 8, "run");
        is(refs(2), refs(3).replace(" ", "/3 ") + "/3", "REFS laid");
    }

    @Says("The FORE of a COMMIT by a PLAN: its PARENTS in their order; with a graft what that tells (that one; . none).")
    void foreByManyGrafts() {
        commits(":+a=1", ":+b=1", ":+c=1", "0:+d=1", "1:+e=1", "2:+f=1", "3,4,5:+g=1");
        branch(1, 'a', 6);
        is(plan(2, "from:1;to:0;graft:5>0;graft:3>2;graft:4>.;graft:6>5"), 6, "plan");
        branch(1, 'b', 4);
        branch(1, 'c', 3);
        is(x.run(2), 6, "run: COMMIT 1 is none of it");
        is(spelt(image(2, 5)).split(":")[0], "0", "FORE of COMMIT 5");
        is(spelt(image(2, 3)).split(":")[0], "2", "FORE of COMMIT 3");
        is(spelt(image(2, 4)).split(":")[0], "", "FORE of COMMIT 4");
        is(spelt(image(2, 6)).split(":")[0], "" + image(2, 5), "FORE of COMMIT 6");
        is(image(2, 1), -4, "not MAPPED");
    }

    @Says("TAGS so, too: by tags 0 none, by 1 those alone whose COMMIT is KEPT, by 2 all.")
    void tagsByAnyPlan() {
        int[] branches = {2, 3, 1, 2};
        int[] tags = {0, 1, 3, 0};
        for (int p = 0; p < 4; p++) {
            x = new CarriedHistory();
            commits(":+a=1", "0:+b=1", ":+a=3", "1:+a=2");
            for (int letter = 0; letter < 4; letter++) {
                branch(2, (char) ('a' + letter), branches[letter]);
                tag(2, (char) ('a' + letter), tags[letter]);
            }
            for (int which = 0; which < 3; which++) {
                is(plan(p, "from:2;to:1;keep:a;sign:0>7;tags:" + which), 5, "plan");
                is(x.run(p), 4, "run");
                is(x.image(p, 1, 1), 1, "EMPTY");
                StringBuilder due = new StringBuilder();
                for (int letter = 0; letter < 4; letter++) {
                    due.append(letter == 0 ? "b" : " b").append((char) ('a' + letter)).append(image(p, branches[letter])).append("/" + p);
                }
                for (int letter = 0; letter < 4; letter++) {
                    if (which == 2 || which == 1 && letter != 1) {
                        due.append(" t").append((char) ('a' + letter)).append(image(p, tags[letter])).append("/" + p);
                    }
                }
                is(refs(1), due.toString(), "REFS by tags " + which + " of PLAN " + p);
            }
        }
    }

    @Says(promise = 8, value = "-7: both are at one COMMIT, or one's is an ANCESTOR of the other's;")
    void joinedByAnyLetters() {
        commits(":+a=1", "0:+b=1", "1:+c=1", "0:+d=1");
        branch(2, 'y', 0);
        branch(2, 'z', 2);
        is(x.join(2, 24, 25, 0, 0), -7, "COMMIT 0 is an ANCESTOR of COMMIT 2");
        is(x.join(2, 25, 24, 0, 0), -7, "the other way round");
        branch(2, 'y', 3);
        is(x.join(2, 25, 24, 0, 0), 4, "none is");
        is(spelt(4), "2,3:a=1;b=1;c=1;d=1:", "the COMMIT");
    }

    @Says(promise = 13, value = "PLAN p, what 0 from, 1 to, 2 keeps, 3 drops, 4 moves, 5 merges, 6 empty, 7 tags,")
    void planIsOfUnlikeCounts() {
        commits(":+a=1", ":+b=1", ":+c=1");
        String lines = "from:2;to:3;keep:a;keep:b;keep:c;keep:d;drop:e;drop:f;drop:g;move:a>q;move:b>r;swap:1>2"
            + ";graft:1>.;graft:2>0;sign:1>2;sign:2>1;sign:3>4;sign:4>3;sign:5>6;merges:0;empty:1;tags:2";
        is(plan(3, lines), 22, "plan");
        int[] due = {2, 3, 4, 3, 2, 0, 1, 2, 0, 0, 0, 0, 0, 22, 0, 0, 6, 1, 0, 2, 5};
        for (int what = 0; what < due.length; what++) {
            is(x.planIs(3, what), due[what], "planIs " + what);
        }
        is(plan(3, "from:2;to:3;word:a>b;word:b>c;word:c>d;swap:1>2;swap:2>3;drop:a;graft:2>1;graft:1>0;graft:0>."), 11, "plan");
        int[] other = {0, 1, 0, 1, 2, 2, 0, 0, 0, 0, 0, 11, 0, 0, 6, 2, 3, 3, 0};
        for (int what = 2; what < 21; what++) {
            is(x.planIs(3, what), other[what - 2], "planIs " + what);
        }
    }

    /** PLANS of all four numbers, RUN one after another; each must tell of its own RUN. */
    @Says(promise = 17, value = "Of PLAN p, what 0 BROKEN, 1 TIED, 2 TWINS, 3 FILES LOST, those of all KEPT, 4 such KEPT with two or more in their FORE whose IMAGE has one PARENT or none, 5 COMMITS of the PLAN not MAPPED;")
    void soundOfManyPlans() {
        is(commit(":+f=1", 0, 0), 0, "COMMIT 0");
        is(commit("0:", 0, 5), 1, "COMMIT 1");
        is(commit(":+g=1", 1, 2), 2, "COMMIT 2");
        is(commit("2,1:", 0, 3), 3, "COMMIT 3");
        is(commit("0,3:", 0, 5), 4, "COMMIT 4");
        branch(2, 'a', 4);
        String[] lines = {"empty:0;merges:3", "drop:f;skip:1", "drop:g", "most:1;tags:0"};
        int[][] due = {{5, 0, 1, 0, 2, 0}, {0, 0, 0, 0, 2, 0}, {0, 0, 0, 0, 1, 0}, {0, 0, 0, 0, 0, 0}};
        int[][] mapped = {{5, 5, 0, 0, 0}, {5, 2, 2, 1, 3}, {5, 3, 2, 0, 1}, {5, 4, 1, 0, 0}};
        for (int p = 0; p < 4; p++) {
            is(plan(p, "from:2;to:" + (p == 2 ? 3 : p == 3 ? 1 : p) + ";" + lines[p]) > 2, true, "plan");
        }
        for (int p = 0; p < 4; p++) {
            is(x.sound(p, 5), 5, "not MAPPED");
            is(x.run(p), 5, "run");
        }
        for (int p = 0; p < 4; p++) {
            for (int what = 0; what < 5; what++) {
                is(x.planIs(p, 8 + what), mapped[p][what], "planIs " + (8 + what) + " of PLAN " + p);
            }
            for (int what = 0; what < 6; what++) {
                is(x.sound(p, what), due[p][what], "sound " + what + " of PLAN " + p);
            }
        }
    }

    @Says(promise = 17, value = "5 COMMITS of the PLAN not MAPPED;")
    void notMappedOfSuchAsAreNotKept() {
        commits(":+a=1", "0:+b=1", "1:+b=2", "2:+a=2");
        branch(0, 'a', 2);
        is(plan(1, "from:0;to:1;keep:b;since:3"), 4, "plan");
        is(x.run(1), 3, "run");
        is(x.planIs(1, 9), 0, "none is KEPT");
        is(x.planIs(1, 10) * 10 + x.planIs(1, 11), 12, "one EMPTY, two SKIPPED");
        is(x.sound(1, 5), 0, "all are MAPPED, EMPTY and SKIPPED ones, too");
        branch(0, 'b', 3);
        is(x.sound(1, 5), 1, "one is not");
    }

    @Says(promise = 30, value = "3 REFS (kind and letter) of one alone, or at unlike COMMITS;")
    void apartOfManyRefs() {
        commits(":", "0:", "1:");
        int[][] refs = {{0, 0}, {0, 3}, {0, 25}, {1, 0}, {1, 3}, {1, 7}, {1, 25}, {1, 24}};
        for (int[] r : refs) {
            is(x.ref(1, r[0], r[1], 0) > 0, true, "REF");
            is(x.ref(3, r[0], r[1], 0) > 0, true, "REF");
        }
        is(x.apart(1, 3, 3), 0, "all alike");
        for (int i = 0; i < refs.length; i++) {
            is(x.ref(3, refs[i][0], refs[i][1], 1 + i % 2), 8, "REF at another COMMIT");
            is(x.apart(1, 3, 3), i + 1, "at unlike COMMITS");
            is(x.apart(3, 1, 3), i + 1, "at unlike COMMITS");
        }
        for (int i = 0; i < refs.length; i++) {
            is(x.ref(1, refs[i][0], refs[i][1], -1), 7 - i, "a REF goes");
            is(x.apart(1, 3, 3), 8, "of one alone, or at unlike COMMITS");
            is(x.apart(3, 1, 3), 8, "of one alone, or at unlike COMMITS");
        }
    }

    @Says("SAVED are COMMITS, HISTORIES, PLANS (what is MAPPED, too); UNDONE: as they were SAVED last.")
    void savedOfAllNumbers() {
        commits(":+a=1", "0:+b=1");
        for (int h = 0; h < 4; h++) {
            branch(h, (char) ('a' + h), h % 2);
            is(plan(h, "from:" + h + ";to:" + (h + 1) % 4 + ";since:" + h), 3, "PLAN " + h);
        }
        for (int p = 3; p >= 0; p--) {
            is(x.run(p) >= 1, true, "run");
        }
        String first = all();
        int all = x.count(0);
        is(x.keep(), all, "SAVED");
        commits("1:+c=1");
        for (int h = 0; h < 4; h++) {
            branch(h, 'z', all);
            is(x.run(h) >= 0, true, "run");
            is(plan(h, "from:" + (h + 1) % 4 + ";to:" + h), 2, "PLAN " + h);
        }
        is(x.undo(), true, "undo");
        is(all(), first, "all behind undo");
    }
}
