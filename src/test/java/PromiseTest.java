/** At least one run for each promise, by its number: ordinary inputs, the edges that the document names, wrong inputs. */
public final class PromiseTest extends Desk {
    // ---- the promises ----

    private void p1() {
        for (int what = 0; what < 6; what++) {
            is(x.count(what), 0, "count " + what);
        }
        is(x.refIs(0, 0, 0), -4, "refIs");
        is(x.planIs(3, 0), -2, "planIs");
        is(x.commitIs(0, 0), -1, "commitIs");
        is(x.undo() ? 1 : 0, 0, "undo");
        is(CarriedHistory.NONE, -1, "NONE");
    }

    private void p2() {
        for (int i = 1; i <= 13; i++) {
            is(x.feed(1, 2, 3, 4, 5), 20 * i, "feed");
        }
        is(x.feed(1, 2, 3, 4, 5), -1, "the fourteenth feed");
        is(x.count(1), 260, "bytes");
        is(x.check(1), 0, "check");
        is(x.feed(0x3a2b613d, 0x313a6173, 0, 0, 0), 20, "feed anew");
        is(x.commit(6, 0, 0), 0, "the highest byte first");
        is(spelt(0), ":a=1:", "what was fed");
        x.feed(0xffff00ff, 0x01000000, 0, 0, 0);
        is(x.check(4), 0, "bytes of 255 for COMMITS that are there");
        x.feed(0x01ffffff, 0xffffffff, 0xffffffff, 0xffffffff, 0xffffffff);
        is(x.check(20), -1, "bytes of 255 for COMMITS that are not there");
    }

    private void p3() {
        is(commit(":", 0, 0), 0, "nothing told");
        is(commit("::", 0, 0), 0, "the same with an empty MESSAGE");
        is(commit(":", 1, 0), 1, "another WHO");
        is(commit(":", 0, 999), 2, "another HOUR");
        is(commit("::m", 0, 0), 3, "another MESSAGE");
        is(commit(":+a=1", 9, 0), 4, "another TREE");
        is(commit("000:", 0, 0), 5, "a PARENT of three digits");
        is(commit("0,1:", 0, 0), 6, "two PARENTS");
        is(commit("1,0:", 0, 0), 7, "in another order");
        is(commit("0,1,2:", 0, 0), 8, "three PARENTS");
        is(commit("00,01:", 0, 0), 6, "told again");
        is(commit(":+a=01", 9, 0), 9, "01 is not 1");
        tell(":");
        is(x.commit(0, 0, 0), -1, "no bytes");
        is(x.commit(161, 0, 0), -1, "too many bytes");
        is(x.commit(21, 0, 0), -1, "more than there are");
        is(x.commit(1, -1, 0), -1, "WHO -1");
        is(x.commit(1, 10, 0), -1, "WHO 10");
        is(x.commit(1, 0, -1), -1, "HOUR -1");
        is(x.commit(1, 0, 1000), -1, "HOUR 1000");
        is(x.count(1), 20, "the tape stays");
        is(x.commit(1, 9, 999), 10, "the greatest WHO and HOUR");
        is(x.count(1), 0, "the tape is empty");
    }

    private void p3Edits() {
        commits(":+b/y=2;+a=1;+b/x=0123", "0:-b;+a=99", "0:*b>c/d/e/f", "2:*c/d>q", "3:*q/e>z/z/z/z");
        is(spelt(0), ":a=1;b/x=0123;b/y=2:", "in order");
        is(spelt(1), "0:a=99:", "a FOLDER goes, a FILE is put in place");
        is(spelt(2), "0:a=1;c/d/e/f/x=0123;c/d/e/f/y=2:", "a FOLDER is moved");
        is(spelt(3), "2:a=1;q/e/f/x=0123;q/e/f/y=2:", "and back up");
        is(spelt(4), "3:a=1;z/z/z/z/f/x=0123;z/z/z/z/f/y=2:", "just six NAMES");
        fault("3:*q>z/z/z/z", -5002);
        fault("2:*c/d>z/z/z/z", -5002);
        commits("0,1:^1a;^1b", "1,0:^1b;^0q", "1,0:^1b/x", "0:*a>b/n;^0b");
        is(spelt(x.count(0) - 4), "0,1:a=99:", "what is at PARENT 1, and nothing for what is not there");
        is(spelt(x.count(0) - 3), "1,0:a=99;b/x=0123;b/y=2:", "a FOLDER of PARENT 1");
        is(spelt(x.count(0) - 2), "1,0:a=99;b/x=0123:", "a FILE of PARENT 1");
        is(spelt(x.count(0) - 1), "0:b/x=0123;b/y=2:", "a FOLDER in place of a FOLDER");
        commits(":+a/b/c/d=123456:ab12#3zz9999");
        is(spelt(x.count(0) - 1), ":a/b/c/d=123456:ab12#3zz9999", "the most that may be told");
    }

    private void longTexts() {
        StringBuilder b = new StringBuilder(":+a=1");
        while (b.length() + 7 <= 158) {
            b.append(";+a=").append(100 + b.length());
        }
        String most = b + ":" + "m".repeat(159 - b.length());
        is(most.length(), 160, "bytes");
        is(commit(most, 0, 0), 0, "a text of 160 bytes");
        tell(most + " ");
        is(x.commit(161, 0, 0), -1, "161 bytes");
        is(x.count(1), 180, "the tape stays");
        is(x.commit(160, 0, 1), 1, "160 of them");
        x = new CarriedHistory();
        String told = "from:0;to:1;keep:a/b/c/d" + ";skip:1".repeat(30) + ";tags:";
        is(told.length(), 240, "bytes");
        is(plan(0, told), -1240, "the end");
        tell(told + "1");
        is(x.plan(0, 241), -1, "241 bytes");
        is(x.count(1), 260, "the tape stays");
        is(x.plan(0, 233), -1233, "the end behind a :");
        tell("from:0;to:1;keep:a/b/c" + ";skip:1".repeat(30) + ";skip:12");
        is(x.plan(0, 239), 34, "a text of 239 bytes");
        tell("from:0;to:1;since:012" + ";skip:1".repeat(29) + ";drop:a/b;keep:a");
        is(x.plan(0, 240), 34, "a text of 240 bytes");
    }

    private void p3Order() {
        commits(":+b=1;+a/b=2;+a/a/z=3;+z/a=5;+a/c=4;+c/a=6");
        is(spelt(0), ":a/a/z=3;a/b=2;a/c=4;b=1;c/a=6;z/a=5:", "NAME by NAME");
    }

    private void p3Faults() {
        commits(":+a=1;+f/g=2", "0:+h=3", ":", "2:+b=1");
        fault("?", -1000);
        fault(",:", -1000);
        fault("0", -1001);
        fault("0;", -1001);
        fault("0,", -1002);
        fault("0,:", -1002);
        fault("0,x", -1002);
        fault("4:", -9000);
        fault("4", -9000);
        fault("4?", -9000);
        fault("1234:", -2003);
        fault("0001:", -2003);
        fault("0,9,0:", -9002);
        fault("0,00:", -6002);
        fault("0,1,2,3:", -4006);
        fault("0,1,2,9:", -4006);
        fault("0,1,2,:", -1006);
        fault(":x", -1001);
        fault(": ", -1001);
        fault(":+", -1002);
        fault(":+A=1", -1002);
        fault(":+a", -1003);
        fault(":+a1", -1003);
        fault(":+ab=1", -1003);
        fault(":+a/=1", -1004);
        fault(":+a=", -1004);
        fault(":+a=x", -1004);
        fault(":+a=1234567", -2010);
        fault(":+a/b/c/d/e=1", -5010);
        fault(":+a/b/c/d/=1", -1010);
        fault(":+a=1x", -1005);
        fault(":+a=1;", -1006);
        fault(":+a=1;:", -1006);
        fault(":+a=1:A", -1006);
        fault("::a b", -1003);
        fault("::123456789012 ", -2014);
        fault("::1234567890123", -2014);
        fault("0:-b", -8002);
        fault("0:-b?", -8002);
        fault("0:-bb", -8002);
        fault("0:-a/b", -8002);
        fault("0:-f/", -1005);
        fault("0:+f=1", -7002);
        fault("0:+f=1?", -7002);
        fault("0:+a/b=1", -7002);
        fault("0:+a/b/c=1", -7002);
        fault("0:*b>c", -8002);
        fault("0:*b>a/c", -8002);
        fault("0:*a", -1004);
        fault("0:*a=b", -1004);
        fault("0:*a>", -1005);
        fault("0:*a>a", -7002);
        fault("0:*a>f", -7002);
        fault("0:*a>f/g", -7002);
        fault("0:*a>f/g/h", -7002);
        fault("0:*f>f/h", -7002);
        fault("0:*f>a/b", -7002);
        fault("0:*a>b/c/d/e/f", -5013);
        fault("0:^", -1003);
        fault("0:^x", -1003);
        fault("0:^1a", -3003);
        fault("0,1:^2a", -3005);
        fault(":^0a", -3002);
        fault("0:^0", -1004);
        is(commit("2,0:+a=1;^1a/b;+f/g/h=2;^1f", 0, 0), 4, "none");
        is(spelt(4), "2,0:a=1;f/g=2:", "a FOLDER in place of a FOLDER below which it was");
    }

    private void p3Rest() {
        commits(":+a=1;+f/g=2", ":+f=3;+a/b=4");
        fault("0,1:^1a/b", -7004);
        is(commit("0,1:^1a/c", 0, 5), 2, "a ^ by which nothing comes");
        is(spelt(2), "0,1:a=1;f/g=2:", "changes nothing");
        is(commit("0,1:^1a;^1f", 0, 5), 3, "a FOLDER in place of a FILE, a FILE in place of a FOLDER");
        is(spelt(3), "0,1:a/b=4;f=3:", "both");
        String all = ":+a=1;+b=1;+c=1;+d=1;+e=1;+f=1;+g=1;+h=1;+i=1;+j=1;+k=1;+l=1;+m=1;+n=1;+o=1;+p=1";
        is(commit(all, 0, 0), 4, "sixteen FILES");
        is(commit("4:+p=2", 0, 0), 5, "one in place of another one");
        fault("4:+q=1", -4002);
        fault("4:-a;+q=1;+r=1", -4010);
        fault("4,1:-a;-f;^1a;^1f;+z=1", -4018);
        is(commit("4:*a>z/z", 0, 0), 6, "a move adds none");
        is(commit("4:+a=2;+a=1;+p=3;+p=2", 0, 0), 5, "the first one in place of itself, too");
        is(commit(":+y/a=1;+y/b=2", 0, 0), 7, "a FOLDER of two");
        fault("4,7:^1y", -4004);
        fault("4,7:-a;^1y", -4007);
        is(commit("4,7:-a;-b;^1y", 0, 0), 8, "just sixteen");
        is(commit("8,7:^1y", 0, 0), 9, "sixteen, two in place of two");
        is(commit("8,7:-y/a;^1y", 0, 1), 10, "two in place of one of fifteen");
        is(commit("7:+y/c/d=1;*y>q/w/e/r", 0, 0), 11, "six NAMES in all, by an EDIT of four");
        is(spelt(11).contains("q/w/e/r/c/d=1"), true, "moved");
    }

    private void p3Full() {
        for (int i = 0; i < 120; i++) {
            is(commit(":", 0, i), i, "COMMIT " + i);
        }
        is(commit(":", 0, 120), -3, "one more");
        is(x.count(1), 0, "the tape is empty");
        is(commit("?", 0, 120), -1000, "a FAULT is told ahead");
        is(commit(":", 0, 119), 119, "one that is there");
        is(commit("119:-a", 0, 5), -8004, "a FAULT of an EDIT");
        is(commit("120:", 0, 5), -9000, "a PARENT that is not there");
    }

    private void p4() {
        commits(":+a=1", "0:+b=2", "1:");
        tell("from:0;to:1");
        is(x.plan(0, 0), -1, "no bytes");
        is(x.plan(0, 241), -1, "too many");
        is(x.plan(0, 21), -1, "more than there are");
        is(x.plan(4, 11), -1, "PLAN 4");
        is(x.plan(-1, 11), -1, "PLAN -1");
        is(x.count(1), 20, "the tape stays");
        is(x.plan(3, 11), 2, "two LINES");
        is(x.count(1), 0, "the tape is empty");
        is(plan(0, "from:3;to:0;keep:a;keep:a;keep:b;keep:a/b/c/d;skip:1;skip:1;skip:9;sign:1>1;sign:2>1"), 11, "LINES");
        is(plan(0, "from:0;to:1;move:.>.;move:a>.;move:b>a;move:a/b>c"), 6, "moves");
        is(plan(0, "from:0;to:1;swap:1>01;swap:01>1;swap:123456>1;swap:001>0"), 6, "swaps of unlike CONTENTS");
        is(plan(0, "from:0;to:1;word:a>b;word:ab>b;word:abcd>abcd;word:b>a"), 6, "words");
        is(plan(0, "from:0;to:1;graft:2>0;graft:001>.;graft:0>."), 5, "grafts");
        is(plan(0, "from:0;to:1;merges:3;empty:2;tags:0;since:007;most:1"), 7, "settings");
        is(x.planIs(0, 15), 7, "since");
        planFault("from:0;to:0", -3010);
        is(x.planIs(0, 13), 7, "the one before stays");
    }

    private void p4Faults() {
        commits(":+a=1", "0:+b=2");
        planFault("?", -1000);
        planFault("fro", -1000);
        planFault("fromm:0", -1000);
        planFault("to:0;from:1", -1000);
        planFault("from", -1004);
        planFault("from;", -1004);
        planFault("from:", -1005);
        planFault("from:x", -1005);
        planFault("from:4", -3005);
        planFault("from:0", -1006);
        planFault("from:00", -1006);
        planFault("from:0;", -1007);
        planFault("from:0;keep:a", -1007);
        planFault("from:0;from:1", -1007);
        planFault("from:2;to:2", -3010);
        planFault("from:2;to:4", -3010);
        planFault("from:2;to:.", -1010);
        String to = "from:0;to:1;";
        planFault(to, -1012);
        planFault("from:0;to:1:", -1011);
        planFault(to + "to:2", -1012);
        planFault(to + "from:2", -1012);
        planFault(to + "keeps:a", -1012);
        planFault(to + "kee:a", -1012);
        planFault(to + ";", -1012);
        planFault(to + "keep;", -1016);
        planFault(to + "keep:1", -1017);
        planFault(to + "keep:.", -1017);
        planFault(to + "keep:a/", -1019);
        planFault(to + "keep:a/b/c/d/e", -5025);
        planFault(to + "drop:a/b/c/d/1", -1025);
        planFault(to + "keep:ab", -1018);
        planFault(to + "move:a", -1018);
        planFault(to + "move:..", -1018);
        planFault(to + "move:a>", -1019);
        planFault(to + "move:a>a/b/c/d/e", -5027);
        planFault(to + "swap:>", -1017);
        planFault(to + "swap:1234567", -2023);
        planFault(to + "swap:1>1234567", -2025);
        planFault(to + "word:abcde>a", -2021);
        planFault(to + "word:a>abcde", -2023);
        planFault(to + "word:1>a", -1017);
        planFault(to + "sign:12", -1018);
        planFault(to + "sign:a", -1017);
        planFault(to + "skip:10", -1018);
        planFault(to + "merges:4", -3019);
        planFault(to + "empty:3", -3018);
        planFault(to + "tags:3", -3017);
        planFault(to + "most:0", -3017);
        planFault(to + "most:7", -3017);
        planFault(to + "most:", -1017);
        planFault(to + "since:", -1018);
        planFault(to + "since:1000", -2021);
        planFault(to + "graft:2>.", -9018);
        planFault(to + "graft:2", -9018);
        planFault(to + "graft:1234", -2021);
        planFault(to + "graft:1>2", -9020);
        planFault(to + "graft:1>1", -7020);
        planFault(to + "graft:0>1", -7020);
        planFault(to + "graft:1>", -1020);
        planFault(to + "graft:1>x", -1020);
        planFault(to + "graft:.>1", -1018);
    }

    private void p4More() {
        commits(":+a=1", "0:+b=2");
        String to = "from:0;to:1;";
        for (String word : new String[] {"keep", "drop"}) {
            String four = to + word + ":a;" + word + ":b;" + word + ":c;" + word + ":d";
            is(plan(0, four), 6, "four of " + word);
            planFault(four + ";" + word + ":e", -4040);
            planFault(four + ";" + word, -4040);
        }
        planFault(to + "move:a>x;move:b>x;move:c>x;move:d>x;move:e>x", -4048);
        planFault(to + "swap:1>2;swap:2>2;swap:3>2;swap:4>2;swap:5>2", -4048);
        planFault(to + "word:a>x;word:b>x;word:c>x;word:d>x;word:e>x", -4048);
        commits("1:", "2:", "3:");
        planFault(to + "graft:0>.;graft:1>.;graft:2>.;graft:3>.;graft:4>.", -4052);
        is(plan(0, to + "graft:0>.;graft:1>.;graft:2>.;graft:4>."), 6, "four grafts");
        planFault(to + "move:a>b;move:a", -6021);
        planFault(to + "move:.>b;move:.?", -6021);
        planFault(to + "move:a>b;move:a/", -1028);
        planFault(to + "swap:1>2;swap:1>2", -6021);
        planFault(to + "word:a>x;word:a>y", -6021);
        planFault(to + "sign:1>2;sign:1>2", -6021);
        planFault(to + "graft:1>0;graft:01>.", -6022);
        is(plan(0, to + "move:a>b;move:a/b>b;keep:a;drop:a"), 6, "unlike ones");
        planFault(to + "merges:1;merges:1", -6021);
        planFault(to + "merges:1;merges", -6021);
        planFault(to + "empty:1;empty:1", -6020);
        planFault(to + "tags:1;tags:1", -6019);
        planFault(to + "since:1;since:1", -6020);
        planFault(to + "most:1;most:1", -6019);
        is(plan(1, to + "sign:0>1;sign:1>1;sign:2>1;sign:3>1;sign:4>1;sign:5>1;sign:6>1;sign:7>1;sign:8>1;sign:9>1"),
            12, "all signs");
        is(x.planIs(1, 20), 10, "signs");
    }

    private void p4Mapped() {
        commits(":+a=1", "0:+b=2");
        carry(1, ";drop:b");
        is(x.planIs(0, 8), 2, "MAPPED");
        is(plan(0, "from:0;to:2"), 2, "told anew");
        is(x.planIs(0, 8), 0, "nothing is MAPPED");
        is(x.refIs(1, 0, 3), 0, "REFS stay");
        is(x.run(0), 2, "run to another HISTORY");
        is(x.historyIs(1, 0), 1, "the REF laid in HISTORY 1 stays");
        is(plan(0, "from:0;to:1;keep:q"), 3, "told anew");
        is(x.run(0), 2, "run");
        is(x.historyIs(1, 0), 0, "now it goes");
    }

    private void p5() {
        commits(":+a=1", "0:+b=2");
        is(x.ref(4, 0, 0, 0), -1, "HISTORY 4");
        is(x.ref(-1, 0, 0, 0), -1, "HISTORY -1");
        is(x.ref(0, 2, 0, 0), -1, "kind 2");
        is(x.ref(0, -1, 0, 0), -1, "kind -1");
        is(x.ref(0, 0, 26, 0), -1, "letter 26");
        is(x.ref(0, 0, -1, 0), -1, "letter -1");
        is(x.ref(0, 0, 0, 2), -1, "COMMIT 2");
        is(x.ref(0, 0, 0, -2), -1, "COMMIT -2");
        is(x.ref(0, 0, 0, -1), -4, "none to go");
        for (int i = 0; i < 8; i++) {
            is(x.ref(0, i % 2, 25 - i, 0), i + 1, "REF " + i);
        }
        is(x.ref(0, 1, 25, 0), -5, "a ninth");
        is(x.ref(0, 0, 25, 1), 8, "in place of one");
        is(x.ref(0, 0, 24, -1), -4, "no BRANCH of a TAG's letter");
        is(x.ref(0, 1, 24, -1), 7, "it goes");
        is(x.ref(1, 1, 24, 1), 1, "another HISTORY");
        is(x.refIs(0, 0, 1), 19, "in order of letters");
        is(x.refIs(0, 3, 1), 25, "the last BRANCH");
        is(x.refIs(0, 3, 2), 1, "at its new COMMIT");
        is(x.refIs(0, 4, 0), 1, "then TAGS");
        is(x.refIs(0, 4, 1), 18, "by their letters");
        is(x.count(5), 8, "REFS of all");
    }

    /** A small store: 0 to 4 with a merge, COMMIT 1 outside of FOLDER a. */
    private void store() {
        is(commit(":+a/x=12;+a/y=345;+b/z=6", 1, 10), 0, "COMMIT 0");
        is(commit("0:+b/z=7", 2, 11), 1, "COMMIT 1");
        is(commit("1:+a/x=13:fix#0", 1, 12), 2, "COMMIT 2");
        is(commit("0:+a/w=9;*a/y>a/v", 3, 9), 3, "COMMIT 3");
        is(commit("2,3:^1a/w;^1a/v;-a/y:#1#2", 1, 20), 4, "COMMIT 4");
        branch(0, 'm', 4);
    }

    private void p6() {
        is(x.run(4), -1, "PLAN 4");
        is(x.run(-1), -1, "PLAN -1");
        is(x.run(0), -2, "none told");
        store();
        is(x.ref(0, 1, 0, 1), 2, "TAG a");
        is(plan(0, "from:0;to:1;keep:a;move:a>."), 4, "plan");
        is(x.run(0), 5, "run");
        is(x.run(0), 0, "run again");
        is(spelt(5), ":x=12;y=345:", "COMMIT 0 carried");
        is(spelt(6), "5:x=13;y=345:fix#5", "COMMIT 2 carried");
        is(spelt(8), "6,7:v=345;w=9;x=13:#5#6", "COMMIT 4 carried, its MENTIONS, too");
        is(x.refIs(1, 0, 2), 8, "the BRANCH");
        is(x.refIs(1, 1, 2), 5, "the TAG at what is EMPTY");
        is(x.refIs(1, 1, 3), 0, "laid by PLAN 0");
        is(commit("4:+a/q=1", 0, 30), 9, "one more");
        branch(0, 'm', 9);
        is(x.run(0), 1, "goes on");
        is(spelt(10), "8:q=1;v=345;w=9;x=13:", "the one more carried");
        is(x.historyIs(1, 0), 2, "REFS");
    }

    private void p6Refs() {
        commits(":+a=1", "0:+b=2", "1:+c=3");
        is(x.ref(0, 0, 1, 0), 1, "BRANCH b");
        is(x.ref(0, 0, 0, 2), 2, "BRANCH a");
        is(x.ref(0, 1, 0, 1), 3, "TAG a");
        is(x.ref(0, 1, 1, 2), 4, "TAG b");
        is(x.ref(1, 0, 0, 1), 1, "told in the to HISTORY");
        is(x.ref(1, 0, 2, 1), 2, "told in the to HISTORY");
        is(plan(0, "from:0;to:1;drop:b;tags:1"), 4, "tags 1");
        is(x.run(0), 3, "run");
        is(x.historyIs(1, 0), 4, "BRANCHES a, b, c, TAG b");
        is(x.refIs(1, 0, 3), 0, "a is laid in place");
        is(x.refIs(1, 2, 3), -2, "c is told");
        is(x.refIs(1, 3, 1), 1, "TAG b alone is at one that is KEPT");
        is(x.ref(0, 0, 0, -1), 3, "BRANCH a goes");
        is(x.ref(1, 0, 1, 2), 4, "BRANCH b is told in the to HISTORY");
        is(x.run(0), 0, "run");
        is(x.historyIs(1, 0), 3, "a went, b and c and TAG b are there");
        is(x.refIs(1, 0, 1), 1, "BRANCH b");
        is(x.refIs(1, 0, 2), 0, "laid again");
        is(plan(1, "from:0;to:1;keep:q"), 3, "another PLAN");
        is(x.run(1), 3, "none has an IMAGE");
        is(x.historyIs(1, 0), 3, "REFS of PLAN 0 stay");
        is(plan(0, "from:0;to:1;tags:0"), 3, "tags 0");
        is(x.run(0), 3, "run");
        is(x.historyIs(1, 0), 2, "BRANCHES b, c");
    }

    private void p6Many() {
        commits(":+a=1", "0:+b=2");
        for (int i = 0; i < 5; i++) {
            is(x.ref(0, 0, i, 1), i + 1, "from");
            is(x.ref(1, 1, i, 0), i + 1, "to");
        }
        is(plan(0, "from:0;to:1;drop:a"), 3, "plan");
        is(x.run(0), -5, "ten REFS");
        is(x.count(0), 2, "no COMMIT is there");
        is(x.planIs(0, 8), 0, "nothing is MAPPED");
        is(x.historyIs(1, 0), 5, "REFS stay");
        is(x.again(0), -5, "anew");
        is(x.ref(1, 1, 0, -1), 4, "one less");
        is(x.ref(1, 0, 0, 0), 5, "one in place of which a BRANCH will be laid");
        is(x.run(0), -5, "nine REFS");
        is(x.ref(1, 1, 1, -1), 4, "one less");
        is(x.run(0), 2, "just eight");
        is(x.historyIs(1, 0), 8, "REFS");
        is(x.run(0), 0, "those laid go first");
        for (int i = 0; x.count(0) < 119; i++) {
            commit(":", 1, i);
        }
        is(commit("1:+c=3", 0, 7), 119, "the last one");
        branch(0, 'a', 119);
        is(x.run(0), -3, "there is no room");
        is(x.count(0), 120, "COMMITS");
        is(x.image(0, 119, 0), -4, "it is not MAPPED");
        is(x.again(0), -3, "anew");
        is(x.image(0, 1, 1), 0, "what was MAPPED stays so");
        is(plan(1, "from:0;to:2"), 2, "each to itself");
        is(x.run(1), 3, "no room is needed");
        is(x.image(1, 119, 0), 119, "its own IMAGE");
    }

    private void p7() {
        is(x.again(4), -1, "PLAN 4");
        is(x.again(-1), -1, "PLAN -1");
        is(x.again(3), -2, "none told");
        store();
        carry(4, ";keep:a");
        int before = x.count(0);
        is(x.again(0), 0, "the same again");
        is(x.count(0), before, "no more COMMITS");
        is(x.ref(0, 0, 12, -1), 1, "m goes");
        branch(0, 'a', 1);
        is(x.planIs(0, 8), 5, "MAPPED");
        is(x.again(0), 0, "anew");
        is(x.planIs(0, 8), 2, "MAPPED anew: what REFS come to");
        is(plan(0, "from:0;to:1;keep:b"), 3, "another one");
        is(x.again(0), 2, "two more COMMITS");
    }

    private void trees() {
        commits(":+a/x=1;+b/x=2;+b/y/z=34;+c=123456", "0:-b;-c");
        carry(0, ";keep:b/y");
        is(carried(0), ":b/y/z=34:", "keep a FOLDER");
        carry(0, ";keep:a;keep:b;drop:b/y");
        is(carried(0), ":a/x=1;b/x=2:", "keeps and a drop");
        carry(0, ";drop:b/y/z;drop:a");
        is(carried(0), ":b/x=2;c=123456:", "drops alone");
        carry(0, ";keep:b/y/z");
        is(carried(0), ":b/y/z=34:", "keep a FILE");
        carry(0, ";most:2");
        is(carried(0), ":a/x=1;b/x=2;b/y/z=34:", "most");
        carry(0, ";most:5;keep:c;keep:a");
        is(carried(0), ":a/x=1:", "most with a keep");
        carry(0, ";move:b>q;move:b/y>.;move:.>t");
        is(carried(0), ":q/x=2;t/a/x=1;t/c=123456;z=34:", "the move of the most NAMES");
        carry(0, ";move:b/x>b/y;swap:34>5;swap:5>6;swap:1>34");
        is(carried(0), ":a/x=34;b/y=2;c=123456:", "LOST below a FILE; each CONTENT swapped once");
        is(x.tried(0, 0, 0), 3, "FILES");
        is(x.tried(0, 0, 1), 4, "TAKEN");
        is(x.tried(0, 0, 2), 1, "LOST");
        carry(0, ";move:a>b;move:c>.");
        is(carried(0), ":b/x=1;b/y/z=34:", "the first one in the old order is taken over");
        is(x.tried(0, 0, 2), 2, "LOST");
        carry(0, ";move:c>b;move:a>b/y/z/q");
        is(x.tried(0, 0, 2), 2, "a FILE ahead, and one below");
        is(carried(0), ":b/x=2;b/y/z/q/x=1:", "the FILE that would be a BEGINNING is LOST, and that below");
        carry(0, ";move:a>b/c/d/e;move:b/y>p/q/r/s");
        is(carried(0), ":b/c/d/e/x=1;b/x=2;c=123456;p/q/r/s/z=34:", "deep");
        carry(0, ";move:.>p/q/r/s");
        is(carried(0), ":p/q/r/s/a/x=1;p/q/r/s/b/x=2;p/q/r/s/c=123456:", "more than six NAMES are LOST");
        is(x.tried(0, 0, 2), 1, "LOST");
    }

    private void parents() {
        commits(":+a=1", "0:+b=1", "0:+c=1", "1,2:^1c", "1:", "4,0:+a=2", "2,1:+a=1;^1b", "6,3:");
        carry(3, ";keep:b;empty:2");
        is(x.image(0, 0, 0), -2, "COMMIT 0 has no IMAGE");
        is(x.image(0, 2, 1), 1, "nor has COMMIT 2");
        is(x.image(0, 3, 0), x.image(0, 1, 0), "a merge with one PARENT' left and its TREE is EMPTY");
        carry(5, ";merges:0;empty:2");
        is(carried(5), "1,0:a=2;b=1:", "by 0 all stay");
        carry(5, ";merges:1");
        is(carried(5), "1,0:a=2;b=1:", "by 1 what was an ELDER before stays");
        carry(5, ";merges:2");
        is(carried(5), "1:a=2;b=1:", "by 2 it goes");
        carry(3, ";graft:2>.;merges:1;drop:b;empty:2");
        is(carried(3).startsWith("0,"), true, "no ANCESTOR of the other one");
        carry(7, ";merges:3;empty:0");
        is(x.commitIs(x.image(0, 7, 0), 0), 1, "by 3 the first with the TREE alone stays");
        is(x.commitIs(x.image(0, 7, 0), 10), x.image(0, 6, 0), "the first one");
        is(x.commitIs(x.image(0, 3, 0), 0), 2, "none with the TREE: both stay");
    }

    /** COMMITS 1 and 2 on COMMIT 0; without FOLDER b COMMIT 1 is EMPTY, and so its IMAGE an ANCESTOR of that of 2. */
    private void mergesByOne() {
        commits(":+a=1", "0:+b=1", "0:+c=1", "1,2:^1c;+d=1", "2,1:^1b;+d=1", "1,0:+e=1", "1,2:^1c");
        branch(0, 'b', 4);
        branch(0, 'c', 5);
        branch(0, 'd', 6);
        carry(3, ";drop:b;merges:1");
        is(carried(3), "2:a=1;c=1;d=1:", "what counts as COMMIT 1 goes, no ELDER of COMMIT 2");
        is(carried(4), "2:a=1;c=1;d=1:", "in the other order, too");
        is(x.image(0, 4, 0) == x.image(0, 3, 0), false, "of another HOUR");
        is(carried(5), "0:a=1;e=1:", "of both with one IMAGE one stays");
        is(x.image(0, 6, 0), 2, "and then it is EMPTY");
        carry(3, ";drop:b;merges:0");
        is(carried(3), "0,2:a=1;c=1;d=1:", "by 0 it stays");
    }

    private void empties() {
        commits(":", "0:", "1:+a=1", "2:", "3:+b=1", ":+b=2");
        branch(0, 'b', 5);
        carry(4, ";drop:b;empty:2");
        is(x.image(0, 0, 0), -2, "without PARENTS' and FILES");
        is(x.image(0, 1, 1), 1, "EMPTY");
        is(carried(2), ":a=1:", "the first one KEPT");
        is(x.image(0, 3, 0), x.image(0, 2, 0), "EMPTY: the PARENT'");
        is(x.image(0, 4, 0), x.image(0, 2, 0), "and so on");
        is(x.planIs(0, 12), 3, "without IMAGE");
        carry(4, ";drop:b;empty:1");
        is(x.image(0, 0, 0), 0, "EMPTY by itself stays");
        is(x.image(0, 3, 1), 0, "it, too");
        is(x.image(0, 4, 1), 1, "EMPTY by the plan goes");
        is(x.image(0, 5, 0), -2, "it, too");
        carry(4, ";drop:b;empty:0");
        is(x.image(0, 4, 1), 0, "by 0 none is EMPTY");
        is(carried(5), "::", "nor this one");
        carry(4, ";graft:2>.;drop:b;drop:a;empty:1");
        is(x.image(0, 2, 1), 1, "EMPTY by its FORE and its TREE it is not by itself");
        is(plan(0, "from:0;to:1;graft:3>0;empty:1;drop:a;drop:b"), 6, "a graft");
        is(x.run(0) > 0, true, "run");
        is(x.image(0, 3, 1), 1, "by its FORE it is not EMPTY by itself");
    }

    private void skips() {
        is(commit(":+a=1", 1, 10), 0, "0");
        is(commit("0:+b=1", 2, 20), 1, "1");
        is(commit("0:+c=1", 1, 5), 2, "2");
        is(commit("1,2:^1c", 2, 30), 3, "3");
        is(commit("3:+d=1", 2, 40), 4, "4");
        is(commit("3:", 2, 40), 5, "5");
        branch(0, 'b', 5);
        carry(4, ";skip:2");
        is(x.image(0, 1, 0), 0, "SKIPPED: its PARENT'");
        is(x.image(0, 1, 1), 2, "SKIPPED");
        is(x.image(0, 3, 1), 2, "a merge with one PARENT' left");
        is(x.image(0, 3, 0), 2, "that one");
        is(x.image(0, 5, 1), 2, "its TREE is not that of its PARENT'");
        carry(4, ";skip:2;merges:0");
        is(x.image(0, 3, 1), 0, "with two PARENTS' it is not SKIPPED");
        is(x.image(0, 5, 1), 1, "EMPTY is asked ahead");
        carry(4, ";since:10;sign:1>7;sign:7>3");
        is(x.image(0, 0, 1), 0, "HOUR 10 is not below 10");
        is(x.image(0, 2, 1), 2, "HOUR 5 is");
        is(x.commitIs(x.image(0, 0, 0), 1), 7, "signed anew, once");
        is(x.commitIs(x.image(0, 0, 0), 2), 10, "its HOUR");
        carry(4, ";skip:1;sign:1>2;sign:2>1");
        is(x.image(0, 0, 0), -2, "SKIPPED without PARENT': none; by its own WHO");
        is(carried(1), ":a=1;b=1:", "then without PARENTS");
        is(x.commitIs(x.image(0, 1, 0), 1), 1, "signed");
    }

    private void messages() {
        commits(":+a=1", "0:+b=1:#0#00#1#", "1:+b=2:#01#1a#a1", "2:+c=1:fix##1x12ab", "3:+c=2:#2222#222",
            "0:+c=3:#3", "4:+c=4:ab#4", "6:+b=3:#1#1#1#1#1#1");
        branch(0, 'b', 5);
        carry(7, ";move:a>z;word:ab>c;word:fix>mend;word:a>long;empty:1");
        int first = x.image(0, 0, 0);
        int second = x.image(0, 1, 0);
        is(carried(1).split(":", -1)[2], "#" + first + "#00#1#", "an ELDER, 00, itself, a # alone");
        is(carried(2).split(":", -1)[2], "#01#" + second + "long#long1", "01 is none; letters behind it");
        is(carried(3).split(":", -1)[2], "mend##" + second + "x12c", "words and a second #");
        is(carried(4).split(":", -1)[2], "#2222#222", "four digits, and what is no ELDER");
        is(carried(5).split(":", -1)[2], "#3", "no ELDER");
        carry(7, ";keep:c");
        is(carried(3).split(":", -1)[2], "fix##?x12ab", "an ELDER without IMAGE");
        commits("7:+d=1:abcdz1z2zz");
        commits((x.count(0) - 1) + ":+d=2:abcd1abcc");
        int last = x.count(0) - 1;
        carry(last, ";word:abcd>z;word:z>abcd;word:abcc>q;word:zz>y");
        is(carried(last - 1).split(":", -1)[2], "abcdz1abcd2y", "all the letters that stand there are one word");
        is(carried(last).split(":", -1)[2], "z1q", "words of four letters");
        carry(7, ";word:ab>abcd;since:1;drop:a");
        is(x.commitIs(x.image(0, 0, 0), 0), -1, "COMMIT 0 has none");
        is(carried(6).split(":", -1)[2], "abcd#" + x.image(0, 4, 0), "both");
    }

    private void longMessages() {
        for (int i = 0; i < 99; i++) {
            is(commit(i == 0 ? ":+a=1" : (i - 1) + ":+a=" + (i + 1) + (i == 9 ? ":#1#2#3#4#5#6" : ""), 0, 0), i, "COMMIT " + i);
        }
        branch(0, 'a', 9);
        is(plan(0, "from:0;to:1;move:a>b"), 3, "plan");
        is(x.run(0), 10, "run");
        is(x.image(0, 1, 0), 100, "IMAGES of three digits");
        is(carried(9), "107:b=10:#100#101#102#103#104#105", "just 24 bytes");
        is(x.commitIs(x.image(0, 9, 0), 4), 24, "24 bytes");
        is(commit("0:+a=3:a#0a#0a#0a#0", 0, 0), 109, "another one");
        branch(0, 'a', 109);
        is(plan(0, "from:0;to:1;move:a>b;word:a>abcd"), 4, "plan");
        is(x.run(0), 2, "run");
        is(carried(109), "99:b=3:abcd#99abcd#99abcd#99abc", "cut behind the 24th byte");
    }

    private void farMentions() {
        for (int i = 0; i < 102; i++) {
            String message = i == 101 ? ":#100#10#1000" : "";
            is(commit((i == 0 ? ":+a=1" : (i - 1) + ":+a=" + (i + 1)) + message, 0, 0), i, "COMMIT " + i);
        }
        carry(101, ";graft:100>.;move:a>b");
        is(carried(101), "102:b=102:#102#10#1000", "of three digits one that is an ELDER, of two one that is none");
    }

    private void grafts() {
        commits(":+a=1", "0:+b=1:#0", "1:+c=1:#0#1", "2:+d=1:#0#1#2");
        carry(3, ";graft:2>0;graft:1>.;word:x>y");
        is(x.planIs(0, 8), 3, "COMMIT 1 is none of the PLAN");
        is(carried(2), "0:a=1;b=1;c=1:#0#1", "grafted elsewhere");
        is(x.image(0, 1, 1), -4, "not MAPPED");
        carry(3, ";graft:3>.;move:a>z");
        is(x.planIs(0, 8), 1, "alone");
        is(carried(3), ":b=1;c=1;d=1;z=1:#0#1#2", "no ELDERS to be named");
    }

    private void p8() {
        commits(":+a=1", "0:+b=2", "0:+c=3", "0:+b=4", "0:+c/d=5", "0:+b=2;+e=1");
        branch(0, 'a', 1);
        branch(0, 'b', 2);
        branch(0, 'c', 3);
        branch(0, 'd', 4);
        branch(0, 'e', 0);
        branch(0, 'f', 1);
        branch(0, 'g', 5);
        is(x.join(4, 0, 1, 0, 0), -1, "HISTORY 4");
        is(x.join(-1, 0, 1, 0, 0), -1, "HISTORY -1");
        is(x.join(0, 0, 0, 0, 0), -1, "like letters");
        is(x.join(0, 26, 0, 0, 0), -1, "letter 26");
        is(x.join(0, 0, -1, 0, 0), -1, "letter -1");
        is(x.join(0, 0, 1, 10, 0), -1, "WHO 10");
        is(x.join(0, 0, 1, 0, 1000), -1, "HOUR 1000");
        is(x.join(0, 0, 25, 0, 0), -4, "no BRANCH z");
        is(x.join(1, 0, 1, 0, 0), -4, "no BRANCHES");
        is(x.join(0, 0, 5, 0, 0), -7, "at one COMMIT");
        is(x.join(0, 0, 4, 0, 0), -7, "an ANCESTOR");
        is(x.join(0, 4, 0, 0, 0), -7, "the other way round");
        is(x.join(0, 0, 2, 0, 0), -6, "unlike CONTENTS");
        is(x.join(0, 1, 3, 0, 0), -6, "a BEGINNING");
        is(x.join(0, 3, 1, 0, 0), -6, "the other way round");
        is(x.count(0), 6, "no COMMIT came");
        is(x.join(0, 0, 1, 3, 77), 6, "joined");
        is(spelt(6), "1,2:a=1;b=2;c=3:", "both TREES");
        is(x.commitIs(6, 1), 3, "WHO");
        is(x.commitIs(6, 2), 77, "HOUR");
        is(x.refIs(0, 0, 2), 6, "BRANCH a is at it");
        is(x.refIs(0, 1, 2), 2, "BRANCH b stays");
        is(x.join(0, 0, 6, 3, 77), 7, "like FILES once");
        is(spelt(7), "6,5:a=1;b=2;c=3;e=1:", "FILES of both");
        branch(0, 'a', 1);
        is(x.join(0, 0, 1, 3, 77), 6, "the one that is there");
        is(x.count(0), 8, "no more");
    }

    private void p8Many() {
        commits(":+a=1;+b=1;+c=1;+d=1;+e=1;+f=1;+g=1;+h=1", ":+i=1;+j=1;+k=1;+l=1;+m=1;+n=1;+o=1;+p=1",
            "1:+q=1", "1:+a=1");
        branch(1, 'a', 0);
        branch(1, 'b', 1);
        branch(1, 'c', 2);
        branch(1, 'd', 3);
        is(x.join(1, 0, 2, 0, 0), -5, "seventeen FILES");
        is(x.join(1, 0, 3, 0, 0), 4, "sixteen with one of both");
        is(x.commitIs(4, 3), 16, "FILES");
        branch(1, 'a', 0);
        commit(":+a=2", 0, 500);
        branch(1, 'e', 5);
        is(commit("2:+a=2", 0, 501), 6, "nine and ten FILES");
        branch(1, 'f', 6);
        is(x.join(1, 0, 5, 0, 0), -6, "unlike CONTENTS are told ahead of too many");
        for (int i = 0; x.count(0) < 120; i++) {
            commit(":", 1, i);
        }
        is(x.join(1, 0, 1, 0, 0), -3, "no room");
        is(x.refIs(1, 0, 2), 0, "the BRANCH stays");
        is(x.join(1, 0, 2, 0, 0), -5, "told ahead");
        is(x.join(1, 0, 3, 0, 0), 4, "it is there");
        carryLaid();
    }

    private void carryLaid() {
        is(plan(2, "from:1;to:2;tags:0"), 3, "plan");
        is(x.ref(1, 0, 4, -1) > 0, true, "a BRANCH goes");
        is(x.run(2) > 0, true, "run");
        is(x.refIs(2, 0, 3), 2, "laid");
        is(x.ref(2, 0, 0, 0) > 0, true, "told");
        is(x.join(2, 0, 3, 0, 0), 4, "joined");
        is(x.refIs(2, 0, 3), -2, "told since by a join");
    }

    private void p9() {
        commits(":+a=1;+b=2", "0:+a=9;-b;+c=3:msg#0", "0:+d=4", "0:+a=9;+c=3;-b", "0:+a=5", "0:+c=8", "0:+c/x=1");
        branch(0, 'a', 2);
        branch(0, 'b', 3);
        branch(0, 'c', 4);
        branch(0, 'd', 5);
        branch(0, 'e', 6);
        is(x.replay(4, 0, 1), -1, "HISTORY 4");
        is(x.replay(0, 26, 1), -1, "letter 26");
        is(x.replay(0, -1, 1), -1, "letter -1");
        is(x.replay(0, 0, 7), -1, "COMMIT 7");
        is(x.replay(0, 0, -1), -1, "COMMIT -1");
        is(x.replay(0, 25, 1), -4, "no such BRANCH");
        is(x.replay(0, 2, 1), -6, "a was changed otherwise");
        is(x.replay(0, 3, 1), -6, "c is there otherwise");
        is(x.replay(0, 4, 1), -6, "c would be a BEGINNING");
        is(x.replay(0, 1, 1), -8, "all is so already");
        is(x.count(0), 7, "no COMMIT came");
        is(x.replay(0, 0, 1), 7, "replayed");
        is(spelt(7), "2:a=9;c=3;d=4:msg#0", "on the BRANCH");
        is(x.commitIs(7, 2), 1, "its HOUR");
        is(x.refIs(0, 0, 2), 7, "the BRANCH is at it");
        is(x.replay(0, 0, 1), -8, "once more");
        is(x.replay(0, 0, 0), -6, "COMMIT 0: its CHANGE is of all its FILES");
        is(commit("4:-b", 0, 50), 8, "half of the CHANGE");
        is(commit("2:-b;+a=9", 0, 50), 9, "some of the CHANGE");
        branch(0, 'a', 9);
        is(x.replay(0, 0, 1), 10, "the rest of it");
        is(spelt(10), "9:a=9;c=3;d=4:msg#0", "all of it");
        branch(0, 'a', 9);
        is(x.replay(0, 0, 1), 10, "the one that is there");
    }

    private void p9Many() {
        commits(":+a=1;+b=1;+c=1;+d=1;+e=1;+f=1;+g=1;+h=1;+i=1;+j=1;+k=1;+l=1;+m=1;+n=1;+o=1", "0:+p=1;-a;+q=2",
            "0:+r=1", ":+x/y=1", "3:-x;+x=1", "4:", ":+x/y=1;+q=1");
        branch(0, 'a', 2);
        is(x.replay(0, 0, 1), -5, "seventeen FILES");
        branch(0, 'b', 3);
        is(x.replay(0, 1, 4), 4, "onto its own PARENT: it is there already");
        branch(0, 'b', 6);
        is(x.replay(0, 1, 4), 7, "a FOLDER goes, a FILE comes in its place");
        is(spelt(7), "6:q=1;x=1:", "both");
        is(x.replay(0, 1, 5), -8, "a CHANGE of nothing");
        branch(0, 'c', 0);
        is(commit("3:+r=2", 0, 9), 8, "one more FILE");
        is(x.replay(0, 2, 8), 9, "sixteen FILES");
        is(x.commitIs(9, 3), 16, "sixteen FILES");
    }

    private void p9Full() {
        commits(":+a=1", "0:+b=1", "0:+c=1");
        branch(0, 'a', 1);
        for (int i = 0; x.count(0) < 120; i++) {
            commit(":", 1, i);
        }
        is(x.replay(0, 0, 2), -3, "no room");
        is(x.refIs(0, 0, 2), 1, "the BRANCH stays");
        branch(0, 'a', 0);
        is(x.replay(0, 0, 2), 2, "the COMMIT itself is there");
        is(x.refIs(0, 0, 2), 2, "the BRANCH is at it");
    }

    private void p10() {
        store();
        int[][] due = {{2, 1, 20, 4, 4, 3, 4, 0, 3, -1, 2, 3, -2, -1}, {0, 1, 10, 3, 0, 0, 0, 2, 3, -1, -2, -2, -2, -1},
            {1, 3, 9, 4, 0, 1, 1, 1, 3, -1, 0, -2, -2, -1}};
        int[] which = {4, 0, 3};
        for (int i = 0; i < 3; i++) {
            for (int what = 0; what < 14; what++) {
                is(x.commitIs(which[i], what), due[i][what], "commitIs " + which[i] + " " + what);
            }
        }
        is(x.commitIs(5, 0), -1, "COMMIT 5");
        is(x.commitIs(-1, 0), -1, "COMMIT -1");
        is(x.commitIs(0, -1), -1, "what -1");
        is(commit("1,3,4:", 0, 0), 5, "three PARENTS");
        is(x.commitIs(5, 12), 4, "PARENT 2");
        is(x.commitIs(5, 5), 4, "GENERATION");
    }

    private void p11() {
        store();
        is(spelt(4), "2,3:a/v=345;a/w=9;a/x=13;b/z=7:#1#2", "COMMIT 4");
        is(x.spelt(4, 35), -2, "behind its end");
        is(x.spelt(4, 599), -2, "far behind its end");
        is(x.spelt(4, 600), -1, "600");
        is(x.spelt(4, -1), -1, "-1");
        is(x.spelt(5, 0), -1, "COMMIT 5");
        is(commit(":+a=000;+b=123456;+c=0:zz", 0, 0), 5, "digits as told");
        is(spelt(5), ":a=000;b=123456;c=0:zz", "COMMIT 5");
    }

    private void p12() {
        commits(":+a/b/c=1;+a/b/d=2;+a/e=3;+f=4", "0:*a>p/q/r/s");
        is(look(0, "a", 0), 2, "a FOLDER");
        is(look(0, "a/b", 0), 2, "a FOLDER in it");
        is(look(0, "f", 0), 1, "a FILE");
        is(look(0, "f/a", 0), 0, "below a FILE");
        is(look(0, "g", 0), 0, "nothing");
        is(look(0, "a", 1), 3, "FILES below");
        is(look(0, "f", 1), 1, "a FILE itself");
        is(look(0, "g", 1), 0, "nothing");
        is(look(0, "a", 2), 0, "a FOLDER in it");
        is(look(0, "a/b", 2), 1, "FILES alone");
        is(look(0, "f", 2), 0, "no FOLDER");
        is(look(0, "g", 2), 0, "nothing");
        is(look(0, "a", 3), 2, "one of each");
        is(look(0, "a/b", 3), 2, "two FILES");
        is(look(0, "f", 3), 0, "a FILE");
        is(look(1, "p/q/r/s/b/c", 0), 1, "six NAMES");
        is(look(1, "p/q/r/s/b/c", 3), 0, "six NAMES");
        is(look(1, "p/q/r/s/b", 3), 2, "five NAMES");
        is(look(0, "/", 0), -1000, "a / first");
        is(look(0, "a/", 0), -1002, "a / last");
        is(look(0, "ab", 0), -1001, "two letters");
        is(look(0, "a/b/c/d/e/1", 0), -1010, "a digit");
        is(x.count(1), 0, "the tape is empty");
        tell("a");
        is(x.look(2, 1, 0), -1, "COMMIT 2");
        is(x.look(-1, 1, 0), -1, "COMMIT -1");
        is(x.look(0, 0, 0), -1, "no bytes");
        is(x.look(0, 12, 0), -1, "twelve bytes");
        is(x.look(0, 1, 4), -1, "what 4");
        is(x.look(0, 1, -1), -1, "what -1");
        is(x.count(1), 20, "the tape stays");
        is(x.look(0, 1, 0), 2, "then it is read");
        is(x.look(0, 1, 0), -1, "it has not so many");
    }

    private void p13() {
        store();
        String all = "from:0;to:2;keep:a;keep:b;drop:c;move:a>q;move:b>r;move:c>s;swap:1>2;word:a>b;word:c>d;graft:1>.";
        is(plan(1, all + ";sign:1>2;sign:3>4;sign:5>6;skip:0;skip:9;merges:3;empty:1;tags:0;since:12;most:4"), 22, "plan");
        int[] due = {0, 2, 2, 1, 3, 3, 1, 0, 0, 0, 0, 0, 0, 22, 513, 12, 4, 1, 2, 1, 3, -1};
        for (int what = 0; what < due.length; what++) {
            is(x.planIs(1, what), due[what], "planIs " + what);
        }
        is(x.planIs(1, -1), -1, "what -1");
        is(x.planIs(4, 0), -1, "PLAN 4");
        is(x.planIs(-1, 0), -1, "PLAN -1");
        is(x.planIs(0, 0), -2, "none told");
        is(plan(0, "from:0;to:1"), 2, "plan");
        int[] plain = {0, 1, 0, 0, 0, 1, 2, 2, 0, 0, 0, 0, 0, 2, 0, 0, 6, 0, 0, 0, 0};
        for (int what = 0; what < plain.length; what++) {
            is(x.planIs(0, what), plain[what], "plain planIs " + what);
        }
        is(plan(0, "from:0;to:1;keep:a;skip:3"), 4, "plan");
        is(x.run(0), 5, "run");
        is(x.planIs(0, 8), 5, "MAPPED");
        is(x.planIs(0, 9), 3, "KEPT");
        is(x.planIs(0, 10), 1, "EMPTY");
        is(x.planIs(0, 11), 1, "SKIPPED");
        is(x.planIs(0, 12), 0, "without IMAGE");
        is(plan(0, "from:0;to:1;keep:a/w"), 3, "plan");
        is(x.run(0), 5, "run");
        is(x.planIs(0, 12), 3, "without IMAGE");
    }

    private void p14() {
        is(x.image(0, 0, 0), -1, "COMMIT 0");
        store();
        is(x.image(0, 0, 0), -3, "none told");
        is(x.image(4, 0, 0), -1, "PLAN 4");
        is(x.image(0, 0, 2), -1, "what 2");
        is(x.image(0, 0, -1), -1, "what -1");
        is(plan(0, "from:0;to:1;keep:a;skip:3"), 4, "plan");
        is(x.image(0, 0, 0), -4, "not MAPPED");
        is(x.image(0, 5, 0), -1, "COMMIT 5");
        is(x.run(0), 5, "run");
        is(x.image(0, 0, 0), 5, "IMAGE");
        is(x.image(0, 1, 0), 5, "of what is EMPTY");
        is(x.image(0, 0, 1), 0, "KEPT");
        is(x.image(0, 1, 1), 1, "EMPTY");
        is(x.image(0, 3, 1), 2, "SKIPPED");
        is(x.image(0, 5, 0), -4, "not of the PLAN");
        is(plan(0, "from:0;to:1;keep:a/w"), 3, "plan");
        is(x.run(0), 5, "run");
        is(x.image(0, 0, 0), -2, "no IMAGE");
        is(x.image(0, 0, 1), 1, "EMPTY");
    }

    private void p15() {
        store();
        is(x.tried(0, 0, 0), -3, "none told");
        is(plan(0, "from:0;to:1;keep:a;move:a/x>a/y"), 4, "plan");
        is(x.tried(4, 0, 0), -1, "PLAN 4");
        is(x.tried(0, 5, 0), -1, "COMMIT 5");
        is(x.tried(0, 0, 4), -1, "what 4");
        is(x.tried(0, 0, -1), -1, "what -1");
        is(x.tried(0, 0, 0), 1, "FILES");
        is(x.tried(0, 0, 1), 2, "TAKEN");
        is(x.tried(0, 0, 2), 1, "LOST");
        is(x.tried(0, 0, 3), -2, "no COMMIT with that TREE");
        is(commit(":+a/y=12", 0, 0), 5, "one");
        is(commit(":+a/y=12", 0, 1), 6, "another one");
        is(x.tried(0, 0, 3), 5, "the lowest");
        is(x.tried(0, 5, 0), 1, "of one that is not of the PLAN");
    }

    private void p16() {
        is(x.share(4), -1, "PLAN 4");
        is(x.share(-1), -1, "PLAN -1");
        is(x.share(0), -3, "none told");
        store();
        is(plan(0, "from:0;to:1;keep:a"), 3, "plan");
        is(x.share(0), Double.doubleToRawLongBits(0.0), "none MAPPED");
        is(x.run(0), 5, "run");
        is(x.share(0), Double.doubleToRawLongBits(4.0 / 5.0), "four of five");
        is(plan(0, "from:0;to:1"), 2, "plan");
        is(x.run(0), 5, "run");
        is(x.share(0), Double.doubleToRawLongBits(1.0), "all");
        is(plan(0, "from:0;to:1;keep:b"), 3, "plan");
        is(x.run(0), 5, "run");
        is(x.share(0), Double.doubleToRawLongBits(2.0 / 5.0), "two of five");
        is(x.ref(0, 0, 12, 0), 1, "REFS come to one alone");
        is(x.share(0), Double.doubleToRawLongBits(2.0 / 5.0), "all MAPPED count");
        is(plan(0, "from:0;to:1;keep:b/z;graft:1>.;graft:2>.;graft:3>.;graft:4>."), 7, "plan");
        is(x.run(0), 1, "run");
        is(plan(0, "from:0;to:1;keep:q"), 3, "plan");
        is(x.run(0), 1, "run");
        is(x.share(0), 0, "none KEPT");
        is(plan(0, "from:0;to:1;skip:1"), 3, "plan");
        branch(0, 'a', 1);
        branch(0, 'b', 3);
        is(x.run(0), 3, "run");
        is(x.share(0), Double.doubleToRawLongBits(2.0 / 3.0), "two of three");
    }

    private void p17() {
        is(x.sound(0, 0), -3, "none told");
        is(x.sound(4, 0), -1, "PLAN 4");
        is(x.sound(0, 6), -1, "what 6");
        is(x.sound(0, -1), -1, "what -1");
        commits(":+a=1", "0:+b=1", "0:+a=1;+c=1", "1,2:^1c", "3:-c;-b");
        branch(0, 'a', 4);
        is(plan(0, "from:0;to:1;merges:3;empty:0;drop:b"), 5, "plan");
        is(x.sound(0, 5), 5, "none MAPPED");
        is(x.run(0), 5, "run");
        is(x.sound(0, 5), 0, "all MAPPED");
        is(x.sound(0, 0), 2, "BROKEN: COMMIT 1 with 3 and with 4");
        is(x.sound(0, 4), 1, "a merge of one PARENT");
        is(plan(0, "from:0;to:1;drop:c;drop:b;empty:0"), 5, "plan");
        is(x.run(0), 5, "run");
        is(x.sound(0, 0), 0, "none BROKEN");
        is(x.sound(0, 1), 0, "none TIED");
        is(plan(0, "from:0;to:1;move:b>a;move:c>a;empty:0"), 5, "plan");
        is(x.run(0), 5, "run");
        is(x.sound(0, 3), 1 + 1 + 2, "LOST");
    }

    private void p17Twins() {
        is(commit(":+a=1", 0, 1), 0, "0");
        is(commit(":+a=1", 1, 1), 1, "1");
        is(commit("0:+b=1", 0, 2), 2, "2");
        is(commit("1:+b=1", 1, 2), 3, "3");
        is(commit("2:+c=1", 1, 2), 4, "4");
        branch(0, 'a', 4);
        branch(0, 'b', 3);
        is(plan(0, "from:0;to:1;sign:1>0"), 3, "plan");
        is(x.run(0), 5, "run");
        is(x.sound(0, 2), 2, "TWINS");
        is(x.image(0, 3, 0), 2, "one IMAGE");
        is(x.sound(0, 1), 4, "TIED: 0 3, 1 2, 1 4, 3 4");
        is(x.sound(0, 0), 0, "none BROKEN");
        is(x.ref(0, 0, 1, -1), 1, "REFS come to COMMITS 1 and 3 no more");
        is(x.sound(0, 2), 0, "no COMMITS of the PLAN");
        is(x.planIs(0, 9), 5, "but MAPPED");
    }

    private void p18() {
        store();
        is(x.ref(0, 1, 3, 2), 2, "TAG d");
        is(x.refIs(0, 0, 0), 0, "kind");
        is(x.refIs(0, 0, 1), 12, "letter");
        is(x.refIs(0, 0, 2), 4, "COMMIT");
        is(x.refIs(0, 0, 3), -2, "never laid");
        is(x.refIs(0, 1, 0), 1, "kind");
        is(x.refIs(0, 2, 0), -4, "not so many");
        is(x.refIs(0, 8, 0), -1, "REF 8");
        is(x.refIs(0, -1, 0), -1, "REF -1");
        is(x.refIs(4, 0, 0), -1, "HISTORY 4");
        is(x.refIs(0, 0, 4), -1, "what 4");
        is(x.refIs(0, 0, -1), -1, "what -1");
        is(plan(3, "from:0;to:1"), 2, "plan");
        is(x.run(3), 5, "run");
        is(x.refIs(1, 0, 3), 3, "laid by PLAN 3");
        is(x.ref(1, 0, 12, 4), 2, "told, though as it was");
        is(x.refIs(1, 0, 3), -2, "told since");
    }

    private void p19() {
        store();
        is(x.ref(0, 1, 0, 1), 2, "TAG");
        int[] due = {2, 5, 1, 1, 1, 3, 5, -1};
        for (int what = 0; what < due.length; what++) {
            is(x.historyIs(0, what), due[what], "historyIs " + what);
            is(x.historyIs(1, what), what == 5 ? -2 : what == 7 ? -1 : 0, "of none " + what);
        }
        is(x.historyIs(4, 0), -1, "HISTORY 4");
        is(x.historyIs(-1, 0), -1, "HISTORY -1");
        is(x.historyIs(0, -1), -1, "what -1");
        is(commit("1:", 0, 0), 5, "the TREE of COMMIT 1");
        branch(0, 'b', 5);
        is(x.historyIs(0, 4), 2, "without CHILDREN");
        is(x.historyIs(0, 6), 5, "unlike TREES");
        branch(1, 'a', 1);
        is(x.historyIs(1, 4), 1, "without CHILDREN in it");
        is(x.historyIs(1, 5), 1, "GENERATION");
    }

    private void p20() {
        store();
        int[] due = {4, 2, 1, 3, 0, -4};
        for (int i = 0; i < due.length; i++) {
            is(x.listing(0, i), due[i], "listing " + i);
        }
        is(x.listing(0, 119), -4, "listing 119");
        is(x.listing(0, 120), -1, "listing 120");
        is(x.listing(0, -1), -1, "listing -1");
        is(x.listing(4, 0), -1, "HISTORY 4");
        is(x.listing(1, 0), -4, "none");
        is(commit("0:", 0, 20), 5, "of HOUR 20");
        branch(0, 'b', 5);
        is(x.listing(0, 0), 5, "of like HOURS the greatest number");
        is(x.listing(0, 1), 4, "then the other one");
        is(commit("5:", 0, 1), 6, "a CHILD of HOUR 1");
        branch(0, 'b', 6);
        is(x.listing(0, 0), 4, "COMMIT 5 waits for its CHILD");
        is(x.listing(0, 4), 6, "listed when its HOUR comes");
        is(x.listing(0, 5), 5, "then COMMIT 5");
    }

    private void p21() {
        store();
        is(x.ancestor(0, 4), 1, "far");
        is(x.ancestor(3, 4), 1, "a second PARENT");
        is(x.ancestor(4, 0), 0, "the other way round");
        is(x.ancestor(2, 3), 0, "beside");
        is(x.ancestor(2, 2), 0, "itself");
        is(x.ancestor(5, 0), -1, "COMMIT 5");
        is(x.ancestor(0, -1), -1, "COMMIT -1");
        for (int i = 5; i < 120; i++) {
            is(commit((i - 1) + ":", 0, i), i, "COMMIT " + i);
        }
        is(x.ancestor(63, 119), 1, "63");
        is(x.ancestor(64, 119), 1, "64");
        is(x.ancestor(118, 119), 1, "118");
        is(x.ancestor(119, 64), 0, "none");
        is(x.commitIs(119, 6), 119, "all");
    }

    private void p22() {
        commits(":", ":+a=1", "0,1:", "1,0:", "2:", "3:", "4,5:");
        is(x.base(4, 5, 0), 2, "two BASES");
        is(x.base(4, 5, 10), 0, "the first");
        is(x.base(4, 5, 11), 1, "the second");
        is(x.base(4, 5, 12), -4, "not so many");
        is(x.base(4, 5, 129), -4, "not so many");
        is(x.base(4, 5, 130), -1, "120");
        is(x.base(4, 5, 9), -1, "9");
        is(x.base(4, 5, 1), -1, "1");
        is(x.base(4, 5, -1), -1, "-1");
        is(x.base(0, 1, 0), 0, "none");
        is(x.base(2, 6, 0), 1, "itself");
        is(x.base(2, 6, 10), 2, "itself");
        is(x.base(3, 3, 10), 3, "with itself");
        is(x.base(7, 0, 0), -1, "COMMIT 7");
        is(x.base(0, -1, 0), -1, "COMMIT -1");
    }

    private void p23() {
        commits(":", "0:", "1:", "2:", "3,1:", "4,0:");
        is(x.way(0, 5), 1, "the short way");
        is(x.way(1, 5), 2, "by the second PARENT");
        is(x.way(2, 5), 3, "by the first");
        is(x.way(5, 5), 0, "itself");
        is(x.way(5, 0), -2, "no way");
        is(x.way(6, 0), -1, "COMMIT 6");
        commits("0:+a=1", "6:", "7:", "8,1:");
        is(x.way(0, 9), 2, "the way found later is shorter");
        is(x.way(6, 9), 3, "by the first PARENT");
        is(x.way(0, -1), -1, "COMMIT -1");
    }

    private void p24() {
        commits(":", "0:", "1:", "2:", "3:", "4:", "2:");
        is(x.halving(0, 5, 0), 5, "BETWEEN");
        is(x.halving(0, 5, 1), 2, "of like ones the lowest");
        is(x.halving(0, 5, 2), 2, "WEIGHT");
        is(x.halving(1, 5, 1), 3, "of four");
        is(x.halving(1, 5, 2), 2, "WEIGHT");
        is(x.halving(4, 5, 0), 1, "one");
        is(x.halving(4, 5, 1), 5, "itself");
        is(x.halving(4, 5, 2), 1, "WEIGHT");
        is(x.halving(5, 4, 0), 0, "none");
        is(x.halving(5, 4, 1), -2, "none");
        is(x.halving(5, 5, 2), -2, "none");
        is(x.halving(6, 5, 0), 3, "a good one beside");
        is(x.halving(0, 5, 3), -1, "what 3");
        is(x.halving(7, 0, 0), -1, "COMMIT 7");
        is(x.halving(0, -1, 0), -1, "COMMIT -1");
        is(commit("6,5:", 0, 9), 7, "a merge");
        is(x.halving(0, 7, 0), 7, "BETWEEN");
        is(x.halving(0, 7, 1), 3, "WEIGHT 3 of 7");
    }

    private void p25() {
        commits(":+a=1;+b=2;+c=345", "0:-a;+b=3;+d=1;+e=345;-c;+f=9");
        is(x.diff(0, 1, 0), 2, "GONE");
        is(x.diff(0, 1, 1), 3, "NEW");
        is(x.diff(0, 1, 2), 1, "CHANGED");
        is(x.diff(0, 1, 3), 2, "RENAMED");
        is(x.diff(1, 0, 0), 3, "GONE the other way round");
        is(x.diff(0, 0, 2), 0, "none");
        is(x.diff(0, 1, 4), -1, "what 4");
        is(x.diff(0, 1, -1), -1, "what -1");
        is(x.diff(0, 2, 0), -1, "COMMIT 2");
        is(x.diff(-1, 0, 0), -1, "COMMIT -1");
    }

    private void p26() {
        commits(":+a=12345;+b=12345;+c=123;+d=77", ":+m=123456;+n=12345;+o=99999;+p=12;+q=1");
        is(x.renamed(0, 1, 0, 0), 0, "the greatest first: a");
        is(x.renamed(0, 1, 0, 1), 1, "n");
        is(x.renamed(0, 1, 0, 2), Float.floatToRawIntBits(1f), "its bits");
        is(x.renamed(0, 1, 0, 3), 100, "in hundredths");
        is(x.renamed(0, 1, 1, 0), 1, "then b");
        is(x.renamed(0, 1, 1, 1), 0, "m");
        is(x.renamed(0, 1, 1, 2), Float.floatToRawIntBits(10f / 11f), "its bits");
        is(x.renamed(0, 1, 1, 3), 90, "in hundredths");
        is(x.renamed(0, 1, 2, 0), 2, "then c");
        is(x.renamed(0, 1, 2, 1), 3, "p");
        is(x.renamed(0, 1, 2, 3), 80, "in hundredths");
        is(x.renamed(0, 1, 3, 0), -4, "no more");
        is(x.renamed(0, 1, 15, 0), -4, "no more");
        is(x.renamed(0, 1, 16, 0), -1, "16");
        is(x.renamed(0, 1, -1, 0), -1, "-1");
        is(x.renamed(0, 1, 0, 4), -1, "what 4");
        is(x.renamed(0, 2, 0, 0), -1, "COMMIT 2");
        is(x.renamed(-1, 0, 0, 0), -1, "COMMIT -1");
        commits(":+a=12345;+b=1", ":+c=12399;+b=2", ":+c=12999", ":+x=11;+y=11", ":+p=11;+q=11");
        is(x.diff(2, 3, 3), 1, "0.6 is enough");
        is(x.renamed(2, 3, 0, 3), (int) (100f * 0.6f), "in hundredths");
        is(x.diff(2, 4, 3), 0, "0.4 is not");
        is(x.renamed(5, 6, 0, 0), 0, "of like ones the lowest GONE");
        is(x.renamed(5, 6, 0, 1), 0, "then the lowest NEW");
        is(x.renamed(5, 6, 1, 0), 1, "each once");
        is(x.renamed(5, 6, 1, 1), 1, "each once");
    }

    private void p27() {
        commits(":+a=123456;+b=654321;+c=1;+d=0101;+e=111");
        int[][] pairs = {{0, 0, 12, 12}, {0, 1, 2, 12}, {0, 2, 2, 7}, {3, 3, 8, 8}, {3, 4, 4, 7}, {2, 1, 2, 7}, {3, 0, 2, 10}};
        for (int[] p : pairs) {
            float f = (float) p[2] / p[3];
            is(x.likeness(0, p[0], 0, p[1], 0), Float.floatToRawIntBits(f), "bits " + p[0] + " " + p[1]);
            is(x.likeness(0, p[0], 0, p[1], 1), (int) (100f * f), "hundredths " + p[0] + " " + p[1]);
        }
        commits(":+a=2;+b=31421;+c=1324");
        is(x.likeness(0, 2, 1, 0, 0), 0, "nothing in both");
        is(x.likeness(1, 1, 1, 2, 0), Float.floatToRawIntBits(4f / 9f), "in one order: 3 and 2");
        is(x.likeness(0, 5, 0, 0, 0), -4, "no such FILE");
        is(x.likeness(0, 0, 1, 15, 0), -4, "no such FILE");
        is(x.likeness(0, 16, 0, 0, 0), -1, "FILE 16");
        is(x.likeness(0, 0, 0, -1, 0), -1, "FILE -1");
        is(x.likeness(2, 0, 0, 0, 0), -1, "COMMIT 2");
        is(x.likeness(0, 0, 0, 0, 2), -1, "what 2");
    }

    private void p28() {
        commits(":+a=1234;+b=5", "0:+a=1235", "1:*a>c", "2:+c=1255;*b>a", "0:+x=9", "3,4:^1x", "5:-a;+z=77");
        is(x.origin(5, 1, 0), 0, "c comes from COMMIT 0");
        is(x.origin(5, 1, 1), 0, "where it is FILE a");
        is(x.origin(5, 1, 2), 2, "twice changed");
        is(x.origin(5, 1, 3), 1, "once RENAMED");
        is(x.origin(5, 1, 4), Float.floatToRawIntBits(1f * (6f / 8f) * (6f / 8f)), "WORN");
        is(x.origin(5, 0, 0), 0, "a comes from COMMIT 0");
        is(x.origin(5, 0, 1), 1, "where it is FILE b");
        is(x.origin(5, 2, 0), 4, "x from the second PARENT");
        is(x.origin(5, 2, 4), Float.floatToRawIntBits(1f), "as it was");
        is(x.origin(6, 2, 0), 6, "z is new");
        is(x.origin(6, 2, 1), 2, "there");
        is(x.origin(6, 2, 2), 0, "no step");
        is(x.origin(6, 3, 0), -4, "no such FILE");
        is(x.origin(6, 16, 0), -1, "FILE 16");
        is(x.origin(6, -1, 0), -1, "FILE -1");
        is(x.origin(7, 0, 0), -1, "COMMIT 7");
        is(x.origin(0, 0, 5), -1, "what 5");
        is(x.origin(0, 0, -1), -1, "what -1");
    }

    private void p28Worn() {
        is(commit(":+a=1", 0, 0), 0, "COMMIT 0");
        float worn = 1f;
        String[] contents = {"1", "234561"};
        for (int i = 1; i < 119; i++) {
            is(commit((i - 1) + ":+a=" + contents[i % 2], 0, 0), i, "COMMIT " + i);
            worn *= 2f / 7f;
            if (i % 9 == 0 || i > 68) {
                is(x.origin(i, 0, 4), Float.floatToRawIntBits(worn), "WORN " + i);
            }
        }
        is(commit("0:+a=2", 0, 0), 119, "COMMIT 119");
        is(x.origin(119, 0, 4), 0, "worn out");
    }

    private void p29() {
        store();
        is(touches(0, "a"), 4, "0, 2, 3, 4");
        is(touches(0, "a/x"), 2, "0 and 2: 4 has it as one PARENT has it");
        is(touches(0, "a/y"), 2, "0 and 3: 4 is as 3");
        is(touches(0, "b"), 2, "0 and 1");
        is(touches(0, "b/z"), 2, "0 and 1");
        is(touches(0, "q"), 0, "none");
        is(touches(1, "a"), 0, "no COMMITS");
        is(touches(0, "a/"), -1002, "a FAULT");
        is(x.count(1), 0, "the tape is empty");
        tell("a");
        is(x.touches(4, 1), -1, "HISTORY 4");
        is(x.touches(0, 0), -1, "no bytes");
        is(x.touches(0, 12), -1, "too many");
        is(x.count(1), 20, "the tape stays");
        is(x.touches(0, 1), 4, "then it is read");
        is(x.touches(0, 1), -1, "it has not so many");
        is(commit("4:-a/x;+a/x/y=13", 0, 50), 5, "a FILE becomes a FOLDER");
        is(commit("5:-b", 0, 51), 6, "a FOLDER goes");
        branch(0, 'm', 6);
        is(touches(0, "a/x"), 3, "it, too");
        is(touches(0, "b"), 3, "it, too");
    }

    private void p30() {
        store();
        branch(1, 'm', 3);
        branch(1, 'b', 2);
        is(x.ref(1, 1, 12, 4), 3, "TAG");
        is(x.ref(0, 1, 12, 4), 2, "TAG");
        is(commit("4:", 0, 0), 5, "one more");
        branch(0, 'z', 5);
        is(x.apart(0, 1, 0), 1, "in 0 alone");
        is(x.apart(0, 1, 1), 5, "in both");
        is(x.apart(0, 1, 2), 0, "in 1 alone");
        is(x.apart(1, 0, 2), 1, "the other way round");
        is(x.apart(0, 1, 3), 3, "m at unlike ones, b, z");
        is(x.apart(1, 0, 3), 3, "the other way round");
        is(x.apart(0, 0, 1), 6, "with itself");
        is(x.apart(0, 0, 3), 0, "with itself");
        is(x.apart(0, 2, 0), 6, "with none");
        is(x.apart(4, 0, 0), -1, "HISTORY 4");
        is(x.apart(0, -1, 0), -1, "HISTORY -1");
        is(x.apart(0, 0, 4), -1, "what 4");
    }

    private void p31() {
        commits(":+a=1;+b=2", "0:+a=3;-b", ":+a=1;+b=2;+c=4", "2:+a=3;-b", "3:+b=9", "4:", "2:", "2:-b");
        branch(0, 'a', 5);
        branch(1, 'a', 1);
        is(x.picked(0, 1), 3, "the same CHANGE");
        is(x.picked(1, 3), 1, "k needs not be of the HISTORY");
        is(x.picked(1, 1), -2, "not itself");
        is(x.picked(0, 4), -2, "none");
        is(x.picked(0, 6), 5, "nothing changed");
        is(x.picked(0, 7), -2, "less is not the same");
        is(commit("5:-a", 0, 50), 8, "a goes");
        is(commit("8:+a=3;-b", 0, 51), 9, "a is NEW here");
        branch(2, 'a', 9);
        is(commit("4:+a=8;-b;+a=3", 0, 52), 10, "b GONE, a as it was");
        is(x.picked(2, 1), 3, "the lowest");
        is(commit("8:+q=1", 0, 53), 11, "q");
        is(commit("9:+q=2", 0, 54), 12, "q otherwise");
        branch(2, 'a', 12);
        is(x.picked(2, 11), -2, "to another CONTENT");
        is(x.picked(4, 0), -1, "HISTORY 4");
        is(x.picked(0, 13), -1, "COMMIT 13");
        is(x.picked(0, -1), -1, "COMMIT -1");
    }

    private void p31New() {
        commits(":+a=1", "0:+a=2", ":+b=1", "2:+a=2");
        branch(0, 'a', 3);
        is(x.picked(0, 1), 3, "NEW or CHANGED is one");
    }

    private void p32() {
        store();
        is(x.line(4, 0), 4, "itself");
        is(x.line(4, 1), 2, "its first PARENT");
        is(x.line(4, 3), 0, "and so on");
        is(x.line(4, 4), -4, "not so many");
        is(x.line(4, 119), -4, "not so many");
        is(x.line(4, 120), -1, "120");
        is(x.line(4, -1), -1, "-1");
        is(x.line(5, 0), -1, "COMMIT 5");
    }

    private void p33() {
        is(x.keep(), 0, "none");
        is(x.undo(), true, "that was SAVED");
        store();
        is(x.keep(), 5, "five");
        is(x.keep(), 5, "again");
    }

    private void p34() {
        is(x.undo(), false, "nothing was SAVED");
        store();
        is(plan(0, "from:0;to:1;keep:a"), 3, "plan");
        is(x.run(0), 5, "run");
        tell("abc");
        int commits = x.keep();
        is(x.count(1), 20, "the tape stays");
        tell("?");
        is(x.commit(1, 0, 0), -1000, "told");
        is(commit("4:+a/q=3", 0, 61) > 0, true, "told");
        branch(0, 'm', commits);
        branch(2, 'c', 1);
        is(x.ref(1, 0, 12, -1), 0, "a REF goes");
        is(x.run(0) > 0, true, "run");
        is(plan(0, "from:1;to:2;merges:0"), 3, "another plan");
        is(plan(3, "from:1;to:2"), 2, "one more");
        is(x.undo(), true, "undo");
        is(x.count(0), commits, "COMMITS");
        is(x.count(4), 1, "PLANS");
        is(x.count(5), 2, "REFS");
        is(x.planIs(0, 2), 1, "the PLAN of before");
        is(x.planIs(0, 8), 5, "MAPPED");
        is(x.planIs(3, 0), -2, "none told");
        is(x.refIs(0, 0, 2), 4, "REF of before");
        is(x.refIs(1, 0, 3), 0, "laid by PLAN 0");
        is(x.historyIs(2, 0), 0, "no REF there");
        is(x.run(0), 0, "goes on");
        is(commit("0:+n=1", 0, 0), commits, "another one");
        is(x.undo(), true, "once more");
        is(x.count(0), commits, "COMMITS");
        is(commit("0:+n=2", 0, 0), commits, "yet another one");
        is(spelt(commits).startsWith("0:"), true, "as told");
        is(x.keep(), commits + 1, "SAVED again");
        is(x.undo(), true, "undo");
        is(x.count(0), commits + 1, "as SAVED last");
    }

    private void p35() {
        is(x.check(0), -1, "nothing asked");
        is(x.check(1), -2, "no tape");
        is(x.check(-1), -2, "-1");
        store();
        x.feed(0x03030304, 0x04ff0000, 0, 0, 0);
        is(x.check(121), -2, "121");
        is(x.check(21), -2, "more than there are");
        is(x.count(1), 20, "the tape stays");
        is(x.check(6), -1, "right");
        is(x.count(1), 0, "the tape is empty");
        x.feed(0x03030304, 0x04000000, 0, 0, 0);
        is(x.check(6), 5, "one that is not there");
        x.feed(0x03030204, 0x04ff0000, 0, 0, 0);
        is(x.check(6), 2, "the first that is not so");
        x.feed(0x03030204, 0x04ff0000, 0, 0, 0);
        is(x.check(2), -1, "right so far");
        x.feed(0x03030304, 0x04ffffff, -1, -1, -1);
        for (int i = 0; i < 5; i++) {
            x.feed(-1, -1, -1, -1, -1);
        }
        is(x.check(120), -1, "120 bytes of just 120");
        for (int i = 0; i < 7; i++) {
            x.feed(-1, -1, -1, -1, -1);
        }
        is(x.check(121), -2, "121 bytes");
        tell("a");
        is(x.check(0), -1, "nothing asked");
        is(x.count(1), 0, "the tape is empty");
    }

    private void p36() {
        commits(":+a=1;+b=01;+c=1", "0:", "0:+c=2", "2:-c", "2:+c=1", ":");
        is(plan(2, "from:0;to:1"), 2, "plan");
        branch(0, 'a', 0);
        branch(3, 'a', 0);
        tell("x");
        int[] due = {6, 20, 4, 3, 1, 2, -1};
        for (int what = 0; what < due.length; what++) {
            is(x.count(what), due[what], "count " + what);
        }
        is(x.count(-1), -1, "count -1");
    }

    // ---- all of them ----

    private static PromiseTest of(int number) {
        where = "promise " + number;
        return new PromiseTest();
    }

    private static void first() {
        of(1).p1();
        of(2).p2();
        of(3).p3();
        of(3).p3Edits();
        of(3).p3Order();
        of(3).longTexts();
        of(3).p3Faults();
        of(3).p3Rest();
        of(3).p3Full();
        of(4).p4();
        of(4).p4Faults();
        of(4).p4More();
        of(4).p4Mapped();
        of(5).p5();
        of(6).p6();
        of(6).p6Refs();
        of(6).p6Many();
        of(7).p7();
        of(6).trees();
        of(6).parents();
        of(6).mergesByOne();
        of(6).empties();
        of(6).skips();
        of(6).messages();
        of(6).longMessages();
        of(6).farMentions();
        of(6).grafts();
        of(8).p8();
        of(8).p8Many();
        of(9).p9();
        of(9).p9Many();
        of(9).p9Full();
    }

    private static void second() {
        of(10).p10();
        of(11).p11();
        of(12).p12();
        of(13).p13();
        of(14).p14();
        of(15).p15();
        of(16).p16();
        of(17).p17();
        of(17).p17Twins();
        of(18).p18();
        of(19).p19();
        of(20).p20();
        of(21).p21();
        of(22).p22();
        of(23).p23();
        of(24).p24();
        of(25).p25();
        of(26).p26();
        of(27).p27();
        of(28).p28();
        of(28).p28Worn();
        of(29).p29();
        of(30).p30();
        of(31).p31();
        of(31).p31New();
        of(32).p32();
        of(33).p33();
        of(34).p34();
        of(35).p35();
        of(36).p36();
    }

    public static void main(String[] args) {
        first();
        second();
        System.out.println(right + " passed, " + wrong + " failed");
        if (wrong != 0) {
            System.exit(1);
        }
    }
}
