/** The edges of "==== 1": NAMES, PATHS, FILES, TREES, COMMITS and how their texts are read. */
final class EdgesOfCommits extends Desk {
    private static final String LETTERS = "abcdefghijklmnopqrstuvwxyz";
    private static final String DIGITS = "0123456789";
    private static final String SIXTEEN = ":+a=1;+b=1;+c=1;+d=1;+e=1;+f=1;+g=1;+h=1;+i=1;+j=1;+k=1;+l=1;+m=1;+n=1;+o=1;+p=1";

    /** COMMITS 0 (FILE a, FOLDER f), 1 (also FILE h). */
    private void two() {
        commits(":+a=1;+f/g=2", "0:+h=3");
    }

    /** Of all bytes those told may stand behind this beginning of a text; each other one is FAULT 1 there. */
    private void only(String ahead, String may) {
        for (char sign = 0; sign < 256; sign++) {
            x = new CarriedHistory();
            two();
            boolean isFault = commit(ahead + sign, 0, 0) == -1000 - ahead.length();
            is(isFault, may.indexOf(sign) < 0, "FAULT 1 of byte " + (int) sign + " behind " + ahead);
        }
    }

    /** The text cannot end here. */
    private void noEnd(String... texts) {
        for (String text : texts) {
            fault(text, -1000 - text.length());
        }
    }

    // ---- NAMES, PATHS, FILES, TREES ----

    @Says("A NAME: a letter a to z.")
    void names() {
        only(":+", LETTERS);
        for (int i = 0; i < 26; i++) {
            x = new CarriedHistory();
            String name = LETTERS.substring(i, i + 1);
            is(commit(":+" + name + "=1", 0, 0), 0, "a FILE " + name);
            is(spelt(0), ":" + name + "=1:", "FILE " + name);
        }
    }

    @Says("A PATH: 1 to 6 NAMES (in texts 1 to 4) with a / (47) between two.")
    void namesOfAPath() {
        is(commit(":+a=1", 0, 0), 0, "one NAME");
        is(commit(":+a/b/c/d=1", 0, 0), 1, "four NAMES");
        fault(":+=1", -1002);
        fault(":+/a=1", -1002);
        fault(":+a//b=1", -1004);
        fault(":+a/=1", -1004);
        fault(":+a/b/c/d/e=1", -5010);
        is(commit("1:*a>a", 0, 0), -7002, "to itself");
        is(commit("1:*a>z/y/x", 0, 0), 2, "six NAMES by an EDIT");
        is(spelt(2), "1:z/y/x/b/c/d=1:", "six NAMES");
        fault("1:*a>z/y/x/w", -5002);
        is(look(2, "z/y/x/b/c/d", 0), 1, "a PATH of six NAMES is asked");
    }

    @Says("A PATH: 1 to 6 NAMES (in texts 1 to 4) with a / (47) between two.")
    void slashes() {
        only(":+a", "/=");
        only(":+a/", LETTERS);
        only(":+a/b/c/d", "/=");
    }

    @Says("A BEGINNING of a PATH: its first NAMES, fewer than all.")
    void beginnings() {
        is(commit(":+a/b/c=1;+b=1", 0, 0), 0, "a FILE of three NAMES");
        fault("0:+a=1", -7002);
        fault("0:+a/b=1", -7002);
        is(commit("0:+a/b/c=2", 0, 0), 1, "all its NAMES are no BEGINNING");
        is(commit("0:+c=1;+b=2", 0, 0), 2, "its last NAME, one in the middle are none");
        fault("0:+a/b/c/d=1", -7002);
        fault("0:+b/a=1", -7002);
        is(commit("0:+c/a/b=1", 0, 0), 3, "other ones ahead");
    }

    @Says("A FILE: a PATH and its CONTENT (1 to 6 digits, as told: 01 is not 1).")
    void contents() {
        fault(":+a=", -1004);
        fault(":+a=;+b=1", -1004);
        is(commit(":+a=0;+b=1;+c=01;+d=001", 0, 0), 0, "short ones");
        is(commit(":+a=000000;+b=999999;+c=100000;+d=000001", 0, 0), 1, "six digits");
        is(spelt(0), ":a=0;b=1;c=01;d=001:", "as told");
        is(spelt(1), ":a=000000;b=999999;c=100000;d=000001:", "as told");
        is(x.count(3), 8, "unlike CONTENTS");
        fault(":+a=0000001", -2010);
        is(commit(":+a=1", 0, 0), 2, "1");
        is(commit(":+a=01", 0, 0), 3, "01 makes another TREE");
        is(x.diff(2, 3, 2), 1, "CHANGED");
        is(x.likeness(2, 0, 3, 0, 1), 66, "1 and 01: two of three");
        is(x.tried(0, 2, 0), -3, "no PLAN");
        carry(3, ";swap:1>7;swap:001>8");
        is(carried(3), ":a=01:", "01 is neither 1 nor 001");
        carry(2, ";swap:1>7;swap:001>8");
        is(carried(2), ":a=7:", "1 is");
    }

    @Says("A TREE: FILES (16 at most) of unlike PATHS")
    void filesOfATree() {
        is(commit(":", 0, 0), 0, "none");
        is(x.commitIs(0, 3), 0, "FILES");
        is(commit(SIXTEEN, 0, 0), 1, "sixteen");
        is(x.commitIs(1, 3), 16, "FILES");
        fault("1:+q=1", -4002);
        is(commit("1:+p=2", 0, 0), 2, "one of a PATH that is there");
        is(x.commitIs(2, 3), 16, "FILES");
        is(look(2, "p", 0), 1, "the last one");
        is(look(2, "q", 0), 0, "none behind it");
        is(commit(":+a=1;+a=2;+a=3", 0, 0), 3, "one PATH told three times");
        is(commit("1:+a=2", 0, 0), 4, "the first of sixteen told anew");
        is(spelt(4), "1:a=2" + SIXTEEN.replace("+", "").substring(4) + ":", "in place");
        is(spelt(3), ":a=3:", "is one FILE");
    }

    @Says("none a BEGINNING of another one's;")
    void noBeginningInATree() {
        fault(":+a/b=1;+a=1", -7008);
        fault(":+a=1;+a/b=1", -7006);
        fault(":+a/b/c=1;+a/b=1", -7010);
        fault(":+a/b=1;+a/b/c/d=1", -7008);
        is(commit(":+a/b=1;-a;+a=1", 0, 0), 0, "it went ahead");
        is(commit(":+a/b=1;+a/c=1;+b=1", 0, 0), 1, "beside");
    }

    @Says("in order of PATHS, NAME by NAME, a first, a BEGINNING ahead of what goes on (numbered 0 on).")
    void orderOfFiles() {
        is(commit(":+z=1;+b/a=22;+b/b/z=3;+a/z/z=4;+b/c=5;+a/a=66", 0, 0), 0, "told in another order");
        is(spelt(0), ":a/a=66;a/z/z=4;b/a=22;b/b/z=3;b/c=5;z=1:", "in order");
        is(commit(":+q=66", 0, 0), 1, "one to be like");
        is(x.likeness(0, 0, 1, 0, 1), 100, "FILE 0 is the first");
        is(x.likeness(0, 5, 1, 0, 1), 0, "FILE 5 is the last");
        is(x.likeness(0, 6, 1, 0, 1), -4, "there is no FILE 6");
    }

    @Says("A FOLDER is at a PATH if that is a BEGINNING of a FILE's.")
    void folders() {
        is(commit(":+a/b/c/d=1;*a>a/z/y", 0, 0), -7012, "below itself");
        commits(":+b/c/d=1;*b>q/r/s/t");
        is(spelt(0), ":q/r/s/t/c/d=1:", "six NAMES");
        String[] beginnings = {"q", "q/r", "q/r/s", "q/r/s/t", "q/r/s/t/c"};
        for (String path : beginnings) {
            is(look(0, path, 0), 2, "a FOLDER at " + path);
        }
        is(look(0, "q/r/s/t/c/d", 0), 1, "a FILE at all of it");
        is(look(0, "q/r/s/t/c/e", 0), 0, "nothing beside");
        is(look(0, "r", 0), 0, "nothing at what is in the middle");
    }

    // ---- COMMITS ----

    @Says("COMMITS 0 on (120 at most; none at first):")
    void commitsAtMost() {
        is(x.count(0), 0, "none at first");
        is(x.commitIs(0, 0), -1, "COMMIT 0");
        for (int i = 0; i < 120; i++) {
            is(commit(":", 0, i), i, "COMMIT " + i);
        }
        refusedTold(() -> commit(":", 0, 120), -3, "one more");
        is(x.commitIs(119, 2), 119, "the last one");
        is(x.commitIs(120, 2), -1, "COMMIT 120");
    }

    @Says("PARENTS (3 at most, unlike, of lower numbers),")
    void parentsOfACommit() {
        commits(":", ":+a=1", ":+b=1");
        fault("3:", -9000);
        fault("0,3:", -9002);
        is(commit("0,1,2:", 0, 9), 3, "three");
        for (int i = 0; i < 3; i++) {
            is(x.commitIs(3, 10 + i), i, "PARENT " + i);
        }
        is(commit("3:", 0, 9), 4, "just one lower");
        fault("0,1,2,3:", -4006);
        fault("1,1:", -6002);
        fault("0,1,0:", -6004);
    }

    @Says("a TREE, a MESSAGE (24 bytes at most),")
    void messageAtMost() {
        commits(":+a=1", "0:+a=2:abababababab");
        is(x.commitIs(0, 4), 0, "no bytes");
        carry(1, ";word:abab>x");
        is(x.commitIs(x.image(0, 1, 0), 4), 12, "a WORD of twelve letters is none of four");
        commits("1:+a=3:a1b1a1b1a1b1");
        carry(2, ";word:a>abc;word:b>abc");
        is(carried(2).split(":", -1)[2], "abc1abc1abc1abc1abc1abc1", "just 24 bytes");
        carry(2, ";word:a>abcd;word:b>abc");
        is(carried(2).split(":", -1)[2], "abcd1abc1abcd1abc1abcd1a", "cut");
        is(x.commitIs(x.image(0, 2, 0), 4), 24, "24 bytes");
    }

    @Says("WHO (0 to 9), HOUR (0 to 999).")
    void whoAndHour() {
        takes(0, 9, who -> emptied(commit(":", who, 0)), "WHO");
        takes(0, 999, hour -> emptied(commit(":", 0, hour)), "HOUR");
        is(x.commitIs(0, 1), 0, "WHO 0");
        is(x.commitIs(1, 1), 9, "WHO 9");
        is(x.commitIs(0, 2), 0, "HOUR 0");
        is(x.commitIs(2, 2), 999, "HOUR 999");
    }

    @Says("Those of like PARENTS (in their order), TREE, MESSAGE, WHO and HOUR are one: what comes that is there already is that one.")
    void likeOnesAreOne() {
        commits(":", ":+z=1");
        is(commit("0,1:+a=1:m", 3, 4), 2, "one");
        String[] others = {"1,0:+a=1:m", "0:+a=1:m", "0,1:+a=2:m", "0,1:+b=1:m", "0,1:+a=1:n", "0,1:+a=1:mm", "0,1:+a=1", "0,1::m"};
        for (int i = 0; i < others.length; i++) {
            is(commit(others[i], 3, 4), 3 + i, "another one: " + others[i]);
        }
        is(commit("0,1:+a=1:m", 4, 4), 11, "of another WHO");
        is(commit("0,1:+a=1:m", 3, 5), 12, "of another HOUR");
        is(commit("00,001:+b=7;+a=1;-b:m", 3, 4), 2, "told in another way it is the same");
        is(commit(":", 0, 0), 0, "the first one");
        is(commit("::", 0, 0), 0, "an empty MESSAGE is none");
        is(x.count(0), 13, "no more came");
        fill(120);
        is(commit("0,1:+a=1:m", 3, 4), 2, "also when there are 120");
        is(commit("0,1:+a=1:m", 3, 5), 12, "also when there are 120");
    }

    @Says("ANCESTORS: PARENTS, those of these, and so on (not itself).")
    void ancestors() {
        commits(":", ":+b=1", "0:", "2,1:", ":+c=1", "3,4:");
        int[] due = {1, 1, 1, 1, 1, 0};
        for (int j = 0; j < 6; j++) {
            is(x.ancestor(j, 5), due[j], "COMMIT " + j + " of COMMIT 5");
            is(x.ancestor(j, j), 0, "itself");
        }
        int[] sizes = {0, 0, 1, 3, 0, 5};
        for (int k = 0; k < 6; k++) {
            is(x.commitIs(k, 6), sizes[k], "ANCESTORS of COMMIT " + k);
        }
    }

    @Says("GENERATION: 0 without PARENTS, else one more than the greatest of PARENTS.")
    void generations() {
        commits(":", ":+a=1", "0:", "1,2:", "3,0,1:", "0,4,1:", "1,0,5:");
        int[] due = {0, 0, 1, 2, 3, 4, 5};
        for (int k = 0; k < due.length; k++) {
            is(x.commitIs(k, 5), due[k], "GENERATION of COMMIT " + k);
        }
        for (int k = 7; k < 120; k++) {
            is(commit((k - 1) + ":", 0, k), k, "COMMIT " + k);
        }
        is(x.commitIs(119, 5), 118, "the greatest");
    }

    // ---- a COMMIT's text ----

    @Says("A COMMIT's text (160 bytes at most, no blanks):")
    void lengthOfAText() {
        StringBuilder b = new StringBuilder(":+a=1");
        while (b.length() + 7 <= 158) {
            b.append(";+a=").append(100 + b.length());
        }
        String most = b + ":" + "m".repeat(159 - b.length());
        tell(most + "m");
        refused(() -> x.commit(161, 0, 0), -1, "161 bytes");
        is(x.commit(160, 0, 0), 0, "160 bytes");
        tell(":");
        is(x.commit(1, 0, 0), 1, "one byte");
        tell(":");
        refused(() -> x.commit(0, 0, 0), -1, "no byte");
    }

    @Says("A COMMIT's text (160 bytes at most, no blanks):")
    void blanks() {
        two();
        String text = "0,1:+z=1;*z>y;-y;^1h:m#1";
        for (int at = 0; at <= text.length(); at++) {
            fault(text.substring(0, at) + " " + text.substring(at), at == 1 ? -1001 : -1000 - at);
        }
        is(commit(text, 0, 0), 2, "without a blank");
    }

    @Says("PARENTS, numbers of one to three digits (007 is 7) with a , between two (there may be none), : (58),")
    void numbersOfParents() {
        for (int i = 0; i < 120; i++) {
            is(commit(i == 0 ? ":" : (i - 1) + ":", 0, i % 2), i, "COMMIT " + i);
        }
        x.keep();
        for (String seven : new String[] {"7", "07", "007"}) {
            is(commit(seven + ":", 0, 0), 8, "PARENT " + seven);
        }
        fault("0007:", -2003);
        fault("1000:", -2003);
        is(commit("100:", 0, 1), 101, "three digits");
        is(commit(":", 0, 0), 0, "no PARENTS");
        fault("120:", -9000);
        fault("999:", -9000);
    }

    @Says("PARENTS, numbers of one to three digits (007 is 7) with a , between two (there may be none), : (58),")
    void signsOfParents() {
        x = new CarriedHistory();
        is(commit(":", 0, 0), 0, "none");
        for (char sign = 0; sign < 256; sign++) {
            boolean isFault = commit("" + sign, 0, 0) == -1000;
            is(isFault, (DIGITS + ":").indexOf(sign) < 0, "FAULT 1 of byte " + (int) sign + " at first");
        }
        only("0", DIGITS + ",:");
        only("00", DIGITS + ",:");
        only("000", DIGITS + ",:");
        only("0,", DIGITS);
        only("0,1", DIGITS + ",:");
        only("0,001", DIGITS + ",:");
        noEnd("0", "00", "000", "0,", "0,1");
    }

    @Says("EDITS with a ; (59) between two (there may be none),")
    void signsOfEdits() {
        only(":", "+-*^:");
        only("0:", "+-*^:");
        only(":+a=1;", "+-*^");
        only(":+a=1", DIGITS + ";:");
        only(":+a=123456", DIGITS + ";:");
        only("0:-a", "/;:");
        only("0:*a>b", "/;:");
        only("0:*a>b/b/c/d", "/;:");
        only("0:^0a", "/;:");
        noEnd(":+a=1;", "0:-a;", "0:*a>b;", "0:^0a;");
    }

    @Says("EDITS with a ; (59) between two (there may be none),")
    void editsNoneAndMany() {
        is(commit(":", 0, 0), 0, "none");
        is(commit("::m", 0, 0), 1, "none, and a MESSAGE");
        StringBuilder b = new StringBuilder(":+a=1;+b=1");
        while (b.length() + 9 <= 160) {
            b.append(";-a;+a=").append(b.length() % 10);
        }
        is(commit(b.toString(), 0, 0), 2, "some forty EDITS");
        is(spelt(2), ":a=" + b.charAt(b.length() - 1) + ";b=1:", "the last one counts");
        is(commit(":+a=1;-a;-a", 0, 0), -8009, "each one behind the one ahead of it");
    }

    @Says("and perhaps : and a MESSAGE (12 bytes at most, a to z, digits, #; there may be none).")
    void messageOfAText() {
        only("::", LETTERS + DIGITS + "#");
        only("::m", LETTERS + DIGITS + "#");
        only("0:+z=1:12345678901", LETTERS + DIGITS + "#");
        x = new CarriedHistory();
        is(commit("::", 0, 0), 0, "no bytes");
        is(commit("::" + "az09#azazaz9", 0, 0), 1, "twelve bytes");
        is(spelt(1), "::az09#azazaz9", "as told");
        is(x.commitIs(1, 4), 12, "bytes");
        fault("::" + "az09#azazaz9z", -2014);
    }

    @Says("The TREE is that of the first PARENT (none: without FILES), EDIT by EDIT:")
    void treeOfTheFirstParent() {
        commits(":+a=1", ":+b=2", "0,1:", "1,0:", "0,1:+c=3", ":+c=3");
        is(spelt(2), "0,1:a=1:", "of the first one");
        is(spelt(3), "1,0:b=2:", "of the first one");
        is(spelt(4), "0,1:a=1;c=3:", "with an EDIT");
        is(spelt(5), ":c=3:", "without PARENTS");
        is(commit(":+a=1;*a>b;+a=2;-b", 0, 0), 6, "EDIT by EDIT");
        is(spelt(6), ":a=2:", "each at what the one ahead left");
    }

    @Says("+PATH=CONTENT: that FILE is there (in place of a FILE there).")
    void putAFile() {
        commits(":+a=1", "0:+a=2", "0:+b=2");
        is(spelt(1), "0:a=2:", "in place");
        is(spelt(2), "0:a=1;b=2:", "beside");
        is(commit("0:+a=1", 0, 7), 3, "in place of one as it is");
        is(x.commitIs(3, 8), 0, "nothing UNLIKE");
        only(":+a=", DIGITS);
        only(":+a/b/c/d=", DIGITS);
        noEnd(":+", ":+a", ":+a/", ":+a=");
    }

    @Says("-PATH: the FILE or FOLDER there goes.")
    void takeOut() {
        commits(":+a=1;+b/a=1;+b/c/d=2;+c=3", "0:-a", "0:-b", "0:-b/c", "0:-b/c/d", "0:-a;-b;-c");
        is(spelt(1), "0:b/a=1;b/c/d=2;c=3:", "a FILE");
        is(spelt(2), "0:a=1;c=3:", "a FOLDER and all below it");
        is(spelt(3), "0:a=1;b/a=1;c=3:", "a FOLDER in a FOLDER");
        is(spelt(4), "0:a=1;b/a=1;c=3:", "the FOLDER goes with its last FILE");
        is(look(4, "b/c", 0), 0, "no FOLDER without FILES");
        is(spelt(5), "0::", "all go");
        only("0:-", LETTERS);
        only("0:-f/", LETTERS);
        noEnd("0:-", "0:-a/");
    }

    @Says("*PATH>PATH: the FILE or FOLDER at the first one goes to the second one.")
    void moveOver() {
        commits(":+a=1;+b/a=1;+b/c/d=2", "0:*a>z", "0:*b>z", "0:*b/c>c", "0:*b>q/b", "0:*a>b/z/z/z");
        is(spelt(1), "0:b/a=1;b/c/d=2;z=1:", "a FILE");
        is(spelt(2), "0:a=1;z/a=1;z/c/d=2:", "a FOLDER and all below it");
        is(spelt(3), "0:a=1;b/a=1;c/d=2:", "out of a FOLDER");
        is(spelt(4), "0:a=1;q/b/a=1;q/b/c/d=2:", "into one");
        is(spelt(5), "0:b/a=1;b/c/d=2;b/z/z/z=1:", "into one that is there");
        is(commit("0:*b>z;-z/c;*z>b", 0, 9), 6, "to and fro, with one gone in between");
        is(spelt(6), "0:a=1;b/a=1:", "what went does not come back");
        is(commit(":+b/a=1;*b>c", 0, 9), 7, "less than was moved ahead");
        is(spelt(7), ":c/a=1:", "that alone");
        is(commit(":+b/a=1;+b/b=1;*b>c;-c/b;*c>d", 0, 9), 8, "less than was moved ahead");
        is(spelt(8), ":d/a=1:", "that alone");
        only("0:*", LETTERS);
        only("0:*a", "/>");
        only("0:*f/g", "/>");
        only("0:*a>", LETTERS);
        only("0:*a>b/", LETTERS);
        noEnd("0:*", "0:*a", "0:*a/", "0:*a>", "0:*a>b/");
    }

    @Says("^d and a PATH: what is there in the TREE of PARENT d (the d-th, 0 on) comes in place of what is there (nothing there: nothing).")
    void takeFromAParent() {
        commits(":+a=1;+b/x=1;+c=1", ":+a=2;+b/y=2", ":+a=3;+c/z=3");
        String[] edits = {"^0a", "^1a", "^2a", "^1b", "^2b", "^1c", "^2c", "^1b/y", "^1b/x", "-a;^0a", "^1z", "^1q/q"};
        String[] due = {"a=1;b/x=1;c=1", "a=2;b/x=1;c=1", "a=3;b/x=1;c=1", "a=1;b/y=2;c=1", "a=1;c=1", "a=1;b/x=1",
            "a=1;b/x=1;c/z=3", "a=1;b/x=1;b/y=2;c=1", "a=1;c=1", "a=1;b/x=1;c=1", "a=1;b/x=1;c=1", "a=1;b/x=1;c=1"};
        for (int i = 0; i < edits.length; i++) {
            int k = commit("0,1,2:" + edits[i], 1, i);
            is(spelt(k), "0,1,2:" + due[i] + ":", edits[i]);
        }
        only("0:^", DIGITS);
        only("0:^0", LETTERS);
        only("0:^0a/", LETTERS);
        noEnd("0:^", "0:^0", "0:^0a/");
    }

    // ---- FAULTS ----

    @Says("A FAULT is told as -1000 times its number, less its place (bytes ahead of it).")
    void placesOfFaults() {
        fault("?", -1000);
        fault("0", -9000);
        two();
        fault("0?", -1001);
        StringBuilder b = new StringBuilder(":+a=1");
        while (b.length() + 5 <= 154) {
            b.append(";+a=1");
        }
        while (b.length() < 154) {
            b.append('1');
        }
        fault(b + ";+a=1?", -1159);
        fault(b + ";-z?", -8155);
        fault(b + ";+a/b=", -1160);
        fault(b + ";+b/c=", -1160);
        fault(b + ";+b/c/", -1160);
    }

    @Says("FAULTS, the first from the left:")
    void firstFromTheLeft() {
        two();
        fault("9,x:+A", -9000);
        fault("x,9:", -1000);
        fault("0,0,9:", -6002);
        fault("0,9,0:", -9002);
        fault("0:-b;+A=1", -8002);
        fault("0:+A=1;-b", -1003);
        fault("0:+f=1;+a/b=1", -7002);
        fault("0:+a/b=1;-z;+f=1", -7002);
        fault("0:-z:?", -8002);
        fault("0:+y=1:?;", -1007);
        fault("0:+y=1234567;-z", -2011);
        fault("0:-z;+y=1234567", -8002);
        fault("0:+a/b/c/d/e=1;-z", -5011);
    }

    @Says("1 what can't stand there (the end, too);")
    void whatCannotStandThere() {
        two();
        noEnd("0", "1", "0,", "0,1", ":+", ":+a", ":+a/", ":+a=", ":+a=1;", "0:-", "0:-a/", "0:-a;", "0:*", "0:*a", "0:*a/",
            "0:*a>", "0:*a>b/", "0:*a>b;", "0:^", "0:^0", "0:^0a/", "0:^0a;");
        fault(":+a=1;:m", -1006);
        fault(":;+a=1", -1001);
        fault(":::", -1002);
        fault("::m:", -1003);
        fault("::m;", -1003);
        fault("0,:", -1002);
        fault(",0:", -1000);
        fault("0,,1:", -1002);
        fault("0;1:", -1001);
        fault("-1:", -1000);
        fault("+1:", -1000);
        fault(":/a=1", -1001);
        fault(":=1", -1001);
        fault(":+a=-1", -1004);
        fault("0:^-1a", -1003);
        is(commit(":", 0, 0), 2, "the end may stand behind the :");
        is(commit("::", 0, 0), 2, "behind the second :");
        is(commit("0:", 0, 0), 3, "behind PARENTS and the :");
        is(commit("0:-a", 0, 0), 4, "behind an EDIT");
    }

    @Says("2 a fourth digit of a number, a seventh of a CONTENT, a 13th byte of a MESSAGE (any), at it;")
    void oneTooMany() {
        two();
        fault("0000:", -2003);
        fault("0001", -2003);
        fault("9999:", -2003);
        fault("0,0000:", -2005);
        fault("000,0011:", -2007);
        fault("00000:", -2003);
        fault(":+a=0000000", -2010);
        fault(":+b=12345678", -2010);
        fault(":+f/x=1234567", -2012);
        for (char sign = 0; sign < 256; sign++) {
            fault("::123456789012" + sign, -2014);
        }
        fault("::12345678901?", -1013);
        fault("0:+b=1:1234567890123", -2019);
    }

    @Says("3 a d without such a PARENT, at it;")
    void noSuchParent() {
        commits(":+a=1", ":+b=1", ":+c=1");
        fault(":^0a", -3002);
        fault("0:^1a", -3003);
        fault("0:^9a", -3003);
        fault("0,1:^2a", -3005);
        fault("0,1,2:^3a", -3007);
        fault("0,1,2:+z=1;^4", -3012);
        fault("0:^1?", -3003);
        is(commit("0:^0a", 0, 0), 0 + 3, "the only one");
        is(commit("0,1:^1b", 0, 0), 4, "the last of two");
        is(commit("0,1,2:^2c", 0, 0), 5, "the last of three");
        is(spelt(5), "0,1,2:a=1;c=1:", "of PARENT 2");
    }

    @Says("4 a fourth PARENT, at its first digit;")
    void fourthParent() {
        commits(":+a=1", ":+b=1", ":+c=1", ":+d=1");
        fault("0,1,2,3:", -4006);
        fault("000,001,002,003:", -4012);
        fault("0,1,2,9:", -4006);
        fault("0,1,2,0:", -4006);
        fault("0,1,2,9999:", -4006);
        fault("0,1,2,3,", -4006);
        fault("0,1,2,", -1006);
        fault("0,1,2,:", -1006);
        fault("0,1,1,3:", -6004);
        is(commit("0,1,2:", 0, 0), 4, "a third one");
    }

    @Says("5 a fifth NAME, at it;")
    void fifthName() {
        commits(":+a/b/c/d=1");
        fault(":+a/b/c/d/e=1", -5010);
        fault(":-a/b/c/d/e", -5010);
        fault("0:*a/b/c/d/e>f", -5011);
        fault("0:*a>a/b/c/d/e", -5013);
        fault("0:^0a/b/c/d/e", -5012);
        fault(":+a/b/c/d/", -1010);
        fault(":+a/b/c/d/E", -1010);
        fault(":+a/b/c/d/e/f/g/h", -5010);
        fault("0:-a/b/c/d/e", -5011);
        is(commit("0:-a/b/c/d", 0, 0), 1, "a fourth one");
        is(commit("0:*a/b/c/d>d/c/b/a", 0, 0), 2, "four on both sides");
        is(commit("0:^0a/b/c/d", 0, 5), 3, "of a ^");
    }

    @Says("of a PARENT, when its number ends, at its first digit: 9 there is no such COMMIT, 6 it is told already;")
    void faultsOfAParent() {
        fault("0", -9000);
        fault("0:", -9000);
        two();
        fault("2:", -9000);
        fault("2", -9000);
        fault("2?", -9000);
        fault("002,", -9000);
        fault("0,2:", -9002);
        fault("0,119:", -9002);
        fault("00,120:", -9003);
        fault("0,999:", -9002);
        fault("1234:", -2003);
        fault("0,0:", -6002);
        fault("0,0?", -6002);
        fault("0,000", -6002);
        fault("1,0,01:", -6004);
        fault("2,2:", -9000);
        is(commit("1:", 0, 0), 2, "the last one that is there");
        is(commit("1,0:", 0, 0), 3, "unlike ones");
    }

    @Says("of an EDIT, when it ends (ahead of what stands behind it), at its first sign (of several the one told first):")
    void whenAnEditEnds() {
        two();
        for (String behind : new String[] {"", "?", ";", ":", "A", ";?", ":?", " "}) {
            fault("0:-b" + behind, -8002);
            fault("0:*b>c" + behind, -8002);
            fault("0:+f=1" + behind, -7002);
            fault("0:*a>f" + behind, -7002);
            fault("1,0:+a=1;^0f;+a/b=1" + behind, -7013);
        }
        fault("0:-b/", -1005);
        fault("0:-bb", -8002);
        fault("0:+f=1234567", -2011);
        fault("0:+f", -1004);
        fault("0:+f=", -1005);
        fault("0:*b>", -1005);
        fault("0:*b", -1004);
        fault("0:*b>c/", -1007);
    }

    @Says("at its first sign (of several the one told first):")
    void severalOfAnEdit() {
        commits(":+a=1;+f/g/h=2", ":+a/z=1", SIXTEEN);
        fault("0:*b>a", -8002);
        fault("0:*b>b/c", -8002);
        fault("0:*b>a/c", -8002);
        fault("0:*b>f", -8002);
        fault("0:*f>f/x/y/z", -7002);
        fault("0:*f>a/x/y/z", -7002);
        fault("2:+a/z=1", -7002);
        fault("2,1:^1a/z", -7004);
        fault("2:+q=1", -4002);
        fault("0:-a/z", -8002);
    }

    @Says("8 (of - and *) nothing is at the (first) PATH;")
    void nothingThere() {
        two();
        fault("0:-b", -8002);
        fault("0:-a/b", -8002);
        fault("0:-f/h", -8002);
        fault("0:-f/g/h", -8002);
        fault("0:*b>c", -8002);
        fault("0:*f/h>c", -8002);
        fault(":-a", -8001);
        fault(":+a=1;-a;-a", -8009);
        fault(":+a=1;*a>b;*a>c", -8011);
        fault("0:-a;-a", -8005);
        fault("0:*a>b;*a>c", -8007);
        fault("0:-f;*f/g>b", -8005);
        fault("1:+b=1;-b;-b", -8010);
        is(commit("0:-f/g", 0, 0), 2, "a FILE");
        is(commit("0:-f", 0, 0), 2, "a FOLDER");
        is(commit("0:*f>c", 0, 0), 3, "a FOLDER");
    }

    @Says("7 of + a FOLDER is at the PATH,")
    void aFolderThere() {
        commits(":+a/b/c=1;+d=1");
        fault("0:+a=1", -7002);
        fault("0:+a/b=1", -7002);
        is(commit("0:+a/b/c=2;+d=2", 0, 0), 1, "FILES are there");
        is(commit("0:-a/b/c;+a=1", 0, 0), 2, "it is there no more");
    }

    @Says("of * something at the second one or the first is a BEGINNING of it,")
    void somethingAtTheSecond() {
        commits(":+a/b/c=1;+d=1;+e=1");
        fault("0:*d>e", -7002);
        fault("0:*d>a", -7002);
        fault("0:*d>a/b", -7002);
        fault("0:*d>a/b/c", -7002);
        fault("0:*d>d", -7002);
        fault("0:*a>a", -7002);
        fault("0:*d>d/x", -7002);
        fault("0:*d>d/x/y/z", -7002);
        fault("0:*a>a/x", -7002);
        fault("0:*a>a/b", -7002);
        fault("0:*a>a/x/y/z", -7002);
        fault("0:*a/b>a/b/x", -7002);
        fault("0:*a/b>a", -7002);
        is(commit("0:*a/b/c>a/b/d", 0, 0), 1, "nothing is at the second one");
        is(commit("0:*a/b>a/d", 0, 0), 2, "beside");
        is(commit("0:*d>f/d", 0, 0), 3, "it is the last NAME");
        is(commit("0:*a>d/a", 0, 0), -7002, "a FILE ahead");
        is(commit("0:-d;*a>d/a", 0, 0), 4, "it went");
    }

    @Says("of each but - a FILE is at a BEGINNING of where it would come (of a ^ by which nothing comes: none);")
    void aFileAhead() {
        commits(":+a=1;+b/c=1;+q=1", ":+a/x=1;+a/y/z=1;+b/c/d=1");
        fault("0:+a/b=1", -7002);
        fault("0:+a/b/c/d=1", -7002);
        fault("0:+b/c/d=1", -7002);
        fault("0:*q>a/b", -7002);
        fault("0:*q>a/b/c/d", -7002);
        fault("0:*b>a/b", -7002);
        fault("0:*q>b/c/d", -7002);
        fault("0,1:^1a/x", -7004);
        fault("0,1:^1a/y", -7004);
        fault("0,1:^1a/y/z", -7004);
        fault("0,1:^1b/c/d", -7004);
        fault("0:-a/b", -8002);
        is(commit("0,1:^1a/z", 0, 0), 2, "nothing comes");
        is(commit("0,1:^0a/x", 0, 0), 2, "nothing comes");
        is(spelt(2), "0,1:a=1;b/c=1;q=1:", "nothing went");
        is(commit("0,1:^1a;^1b/c", 0, 0), 3, "in place of a FILE");
        is(spelt(3), "0,1:a/x=1;a/y/z=1;b/c/d=1;q=1:", "a FOLDER comes");
        is(commit("0:*q>b/d;+b/e=1", 0, 0), 4, "a FOLDER is at a BEGINNING");
    }

    @Says("5 (of *) a PATH would have more than 6 NAMES;")
    void tooManyNames() {
        commits(":+a/b/c/d=1;+a/e=1", "0:*a/e>a/x/y/z");
        is(commit("0:*a>p/q/r", 0, 0), 2, "six NAMES");
        is(spelt(2), "0:p/q/r/b/c/d=1;p/q/r/e=1:", "six NAMES");
        fault("0:*a>p/q/r/s", -5002);
        fault("0:*a/b>p/q/r/s;*p>q/t/u", -5015);
        is(commit("0:*a/e>p/q/r/s", 0, 0), 3, "a FILE is as long as the second one");
        is(commit("2:*p/q/r>p/q/s", 0, 0), 4, "six stay six");
        fault("2:*p/q/r>p/q/r/r", -7002);
        fault("2:*p/q/r>p/q/s/t", -5002);
        fault("2:*p/q>z/y/x", -5002);
        is(commit("2:*p/q>z", 0, 0), 5, "one less");
        is(commit("0:-a/b;*a>p/q/r/s", 0, 0), 6, "what went counts no more");
        is(spelt(6), "0:p/q/r/s/e=1:", "five NAMES");
        is(commit("0:*a/e>a/a;-a/b;*a>p/q/r/s", 0, 0), 7, "what went counts no more");
        is(spelt(7), "0:p/q/r/s/a=1:", "five NAMES");
    }

    @Says("4 there would be more than 16 FILES.")
    void tooManyFiles() {
        commits(SIXTEEN, ":+y/a=1;+y/b=1", "0:-a", "0:-a;-b");
        fault("0:+q=1", -4002);
        fault("0:+y/a=1", -4002);
        fault("2:+q=1;+r=1", -4007);
        fault("2,1:^1y", -4004);
        fault("0,1:^1y/a", -4004);
        is(commit("2:+q=1", 0, 0), 4, "sixteen");
        is(commit("0:+p=2", 0, 0), 5, "in place of the last one");
        is(commit("2,1:^1y/a", 0, 0), 6, "sixteen by a ^");
        is(commit("3,1:^1y", 0, 0), 7, "sixteen by a ^ of two");
        is(x.commitIs(7, 3), 16, "FILES");
        is(commit("7,1:-y/b;+q=1;^1y/a", 0, 0), 8, "one in place of one");
        fault("7,1:-y/b;+q=1;^1y", -4014);
        is(commit("7,1:^1y", 0, 0), 9, "two in place of two");
        is(commit("0:*a>z/z", 0, 0), 10, "a move adds none");
        is(commit("0:+a=2", 0, 0), 11, "in place of the first one");
        fault(SIXTEEN + ";+q=1", -4081);
    }
}
