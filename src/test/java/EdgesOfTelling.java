/** The edges of promises 1 to 9: what is told, and what moves COMMITS and REFS. */
final class EdgesOfTelling extends Desk {
    private static final int MIN = Integer.MIN_VALUE;
    private static final int MAX = Integer.MAX_VALUE;
    private static final String EIGHT = "+a=1;+b=1;+c=1;+d=1;+e=1;+f=1;+g=1;+h=1";
    private static final String OTHER_EIGHT = "+i=1;+j=1;+k=1;+l=1;+m=1;+n=1;+o=1;+p=1";

    private void feeds(int times) {
        for (int i = 0; i < times; i++) {
            x.feed(0x61616161, 0x61616161, 0x61616161, 0x61616161, 0x61616161);
        }
    }

    // ---- 1, 2 ----

    @Says(promise = 1, value = "No COMMITS, REFS, PLANS.")
    void newObject() {
        for (int what = 0; what < 6; what++) {
            is(x.count(what), 0, "count " + what);
        }
        for (int i = 0; i < 4; i++) {
            is(x.historyIs(i, 0), 0, "REFS of HISTORY " + i);
            is(x.historyIs(i, 1), 0, "COMMITS of HISTORY " + i);
            is(x.refIs(i, 0, 0), -4, "REF 0 of HISTORY " + i);
            is(x.listing(i, 0), -4, "LISTING of HISTORY " + i);
            is(x.planIs(i, 0), -2, "PLAN " + i);
            is(x.share(i), -3, "PLAN " + i);
        }
        is(x.commitIs(0, 0), -1, "COMMIT 0");
        is(x.spelt(0, 0), -1, "COMMIT 0");
        is(x.undo(), false, "nothing is SAVED");
        is(x.check(0), -1, "no COMMITS");
        is(x.keep(), 0, "no COMMITS");
    }

    @Says(promise = 2, value = "Twenty bytes come behind the tape, the highest of each int first: how many it has;")
    void feedInOrder() {
        is(x.feed(0x3a2b612f, 0x622f632f, 0x643d3132, 0x33343536, 0x3a617a30), 20, "feed");
        is(x.feed(0x39236d00, -1, MIN, MAX, 0), 40, "feed");
        is(x.commit(23, 0, 0), 0, "commit");
        is(spelt(0), ":a/b/c/d=123456:az09#m", "each byte in its order");
        is(x.count(1), 0, "the tape");
        is(x.feed(0x01ffffff, -1, -1, -1, -1), 20, "feed");
        is(x.check(20), -1, "bytes of 255");
        is(x.feed(0x01ff7fff, -1, -1, -1, -1), 20, "feed");
        is(x.check(20), 2, "a byte of 127");
        is(x.feed(0x0100ffff, -1, -1, -1, -1), 20, "feed");
        is(x.check(20), 1, "a byte of 0");
    }

    @Says(promise = 2, value = "NONE if that would be more than 260.")
    void feedAtMost() {
        for (int i = 1; i <= 13; i++) {
            is(x.feed(i, i, i, i, 0x3a3a3a3a), 20 * i, "feed " + i);
        }
        refused(() -> x.feed(0, 0, 0, 0, 0), -1, "feed 14");
        refused(() -> x.feed(MIN, MAX, -1, 0, 1), -1, "feed 15");
        is(x.count(1), 260, "bytes");
        is(x.check(0), -1, "they go");
        is(x.feed(0x3a616161, 0, 0, 0, 0), 20, "feed anew");
        feeds(12);
        refused(() -> x.feed(0, 0, 0, 0, 0), -1, "one more");
        is(x.commit(1, 0, 0), 0, "what was told stays");
    }

    // ---- 3 ----

    @Says(promise = 3, value = "A COMMIT by the first n bytes of the tape (1 to 160; empty then), WHO, HOUR: its number;")
    void commitBytes() {
        feeds(13);
        refused(() -> x.commit(161, 0, 0), -1, "161 bytes");
        refused(() -> x.commit(0, 0, 0), -1, "no bytes");
        refused(() -> x.commit(-1, 0, 0), -1, "-1 bytes");
        refused(() -> x.commit(MIN, 0, 0), -1, "far fewer");
        refused(() -> x.commit(MAX, 0, 0), -1, "far more");
        is(x.commit(160, 0, 0), -1000, "160 bytes are read");
        is(x.count(1), 0, "the tape is empty, what is behind them gone, too");
        tell(":+a=1;+b=2");
        is(x.commit(5, 9, 999), 0, "the first five bytes alone");
        is(spelt(0), ":a=1:", "the first five bytes alone");
        is(x.commitIs(0, 1), 9, "WHO");
        is(x.commitIs(0, 2), 999, "HOUR");
        is(x.count(1), 0, "the tape is empty");
        tell(":");
        is(x.commit(1, 0, 0), 1, "one byte");
        tell(":+a=1:" + "m".repeat(12) + "aa");
        is(x.commit(20, 0, 0), -2018, "all twenty bytes");
    }

    @Says(promise = 3, value = "a FAULT;")
    void commitFaults() {
        commits(":+a=1");
        fault("?", -1000);
        fault("1:", -9000);
        fault("0:-b", -8002);
        fault("0:+a/b=1", -7002);
        fault("0,0:", -6002);
        fault(":+a/b/c/d/e=1", -5010);
        fault(":^0a", -3002);
        fault("0000:", -2003);
        is(x.count(0), 1, "no COMMIT came");
        is(commit("0:", 0, 9), 1, "one without a FAULT");
    }

    @Says(promise = 3, value = "-3: it is not there and there are 120 (asked behind FAULTS);")
    void commitInAFullStore() {
        commits(":+a=1:m");
        fill(119);
        is(commit(":+z=1", 0, 0), 119, "the last one");
        refusedTold(() -> commit(":+z=2", 0, 0), -3, "one more");
        refusedTold(() -> commit(":+z=1", 1, 0), -3, "of another WHO");
        refusedTold(() -> commit("119:", 0, 0), -3, "with a PARENT");
        is(commit(":+z=1", 0, 0), 119, "it is there");
        is(commit(":+a=1:m", 0, 0), 0, "it is there");
        fault("120:", -9000);
        fault("119:-a", -8004);
        fault("?", -1000);
        fault("::1234567890123", -2014);
        fault("119:+z=2;", -1009);
    }

    @Says(promise = 3, value = "NONE: no such ones, it has not so many (the tape stays).")
    void commitNone() {
        takes(0, 9, who -> {
            tell(":");
            return emptied(x.commit(1, who, 0));
        }, "WHO");
        takes(0, 999, hour -> {
            tell(":");
            return emptied(x.commit(1, 0, hour));
        }, "HOUR");
        tell(":+q=7");
        for (int who : new int[] {MIN, -1, 10, MAX}) {
            refused(() -> x.commit(5, who, 0), -1, "WHO " + who);
        }
        for (int hour : new int[] {MIN, -1, 1000, MAX}) {
            refused(() -> x.commit(5, 0, hour), -1, "HOUR " + hour);
        }
        refused(() -> x.commit(21, 0, 0), -1, "one more than there are");
        refused(() -> x.commit(160, 0, 0), -1, "more than there are");
        is(x.commit(5, 0, 0) > 0, true, "what was told stays");
        is(spelt(x.count(0) - 1), ":q=7:", "what was told stays");
        refused(() -> x.commit(1, 0, 0), -1, "one more than none");
        fill(120);
        tell("?");
        refused(() -> x.commit(1, 10, 0), -1, "asked ahead of a FAULT and of -3");
    }

    // ---- 4 ----

    @Says(promise = 4, value = "PLAN p by the first n bytes of the tape (1 to 240; empty then),")
    void planBytes() {
        feeds(13);
        refused(() -> x.plan(0, 241), -1, "241 bytes");
        refused(() -> x.plan(0, 0), -1, "no bytes");
        refused(() -> x.plan(0, -1), -1, "-1 bytes");
        refused(() -> x.plan(0, MIN), -1, "far fewer");
        refused(() -> x.plan(0, MAX), -1, "far more");
        is(x.plan(0, 240), -1000, "240 bytes are read");
        is(x.count(1), 0, "the tape is empty, what is behind them gone, too");
        tell("from:0;to:1;most:3");
        is(x.plan(0, 11), 2, "the first eleven bytes alone");
        is(x.planIs(0, 16), 6, "the first eleven bytes alone");
        is(x.count(1), 0, "the tape is empty");
        tell("from:0;to:1;most:123");
        is(x.plan(0, 18), 3, "eighteen");
        is(x.planIs(0, 16), 1, "eighteen");
        tell("from:0;to:1;since:12");
        is(x.plan(0, 20), 3, "all twenty bytes");
        is(x.planIs(0, 15), 12, "all twenty bytes");
    }

    @Says(promise = 4, value = "in place of the one before (nothing is MAPPED then, REFS stay): how many LINES;")
    void planInPlace() {
        commits(":+a=1", "0:+b=1");
        branch(0, 'a', 1);
        is(plan(3, "from:0;to:1;keep:a;keep:b;drop:c;move:a>c;swap:1>2;word:a>b;graft:1>.;sign:1>2;skip:3;merges:2;empty:1;tags:1;"
            + "since:1;most:4"), 16, "LINES");
        is(x.run(3), 1, "run");
        is(refs(1), "ba" + x.image(3, 1, 0) + "/3", "a REF laid");
        String refs = refs(1);
        is(plan(3, "from:0;to:2"), 2, "LINES");
        int[] due = {0, 2, 0, 0, 0, 1, 2, 2, 0, 0, 0, 0, 0, 2, 0, 0, 6, 0, 0, 0, 0};
        for (int what = 0; what < due.length; what++) {
            is(x.planIs(3, what), due[what], "planIs " + what + ": nothing of the one before");
        }
        is(x.image(3, 1, 0), -4, "nothing is MAPPED");
        is(refs(1), refs, "REFS stay, and who laid them");
        is(x.run(3), 2, "all are REWRITTEN");
        is(plan(3, "from:0;to:2"), 2, "the same text once more");
        is(x.planIs(3, 8), 0, "nothing is MAPPED");
        is(plan(2, "from:0;to:2"), 2, "another PLAN");
        is(x.count(4), 2, "PLANS told");
    }

    @Says(promise = 4, value = "a FAULT (the one before stays);")
    void planFaults() {
        commits(":+a=1", "0:+b=1");
        planFault("from:0;to:0", -3010);
        is(x.planIs(0, 0), -2, "none is told");
        carry(1, ";drop:b;most:3;skip:7;word:a>b;graft:1>0");
        String[] texts = {"?", "from:1;to:1", "from:2;to:3;keep:x;keep:y;drop:z;", "from:2;to:3;most:1;since:9;skip:1;sign:1>2;merges:3;x",
            "from:2;to:3;move:a>b;move:a", "from:2;to:3;graft:2>1", "from:2;to:3;graft:1>1", "from:2;to:3;swap:1>1234567"};
        int[] due = {-1000, -3010, -1033, -1052, -6021, -9018, -7020, -2025};
        for (int i = 0; i < texts.length; i++) {
            planFault(texts[i], due[i]);
        }
        is(x.planIs(0, 8), 2, "what is MAPPED stays");
        is(x.run(0), 0, "what is MAPPED stays");
        is(x.tried(0, 1, 0), 1, "its LINES stay");
    }

    @Says(promise = 4, value = "NONE: no such ones, it has not so many (the tape stays).")
    void planNone() {
        takes(0, 3, p -> {
            tell("from:0;to:1");
            return emptied(x.plan(p, 11));
        }, "PLAN");
        is(x.count(4), 2, "PLANS 0 and 3");
        tell("from:2;to:1");
        for (int p : new int[] {MIN, -1, 4, MAX}) {
            refused(() -> x.plan(p, 11), -1, "PLAN " + p);
            refused(() -> x.plan(p, 3), -1, "PLAN " + p + " with a FAULT");
        }
        refused(() -> x.plan(0, 21), -1, "one more than there are");
        refused(() -> x.plan(0, 240), -1, "more than there are");
        is(x.plan(0, 11), 2, "what was told stays");
        is(x.planIs(0, 0), 2, "what was told stays");
        refused(() -> x.plan(0, 1), -1, "one more than none");
    }

    // ---- 5 ----

    @Says(promise = 5, value = "A REF of HISTORY h (kind 0 a BRANCH, 1 a TAG; letter 0 to 25) is told, at COMMIT k, in place of one of its kind and letter;")
    void refTold() {
        commits(":+a=1", "0:+a=2");
        is(x.ref(3, 1, 25, 0), 1, "TAG z");
        is(x.ref(3, 0, 25, 0), 2, "BRANCH z");
        is(x.ref(3, 1, 25, 1), 2, "TAG z elsewhere");
        is(refs(3), "bz0 tz1", "REFS");
        is(x.ref(3, 1, 25, 1), 2, "where it is");
        is(x.ref(0, 0, 25, 1), 1, "of another HISTORY");
        is(refs(3) + ", " + refs(0), "bz0 tz1, bz1", "REFS");
        is(plan(2, "from:3;to:1"), 2, "plan");
        is(x.run(2), 2, "run");
        is(x.refIs(1, 0, 3), 2, "laid");
        is(x.ref(1, 0, 25, x.refIs(1, 0, 2)), 2, "told where it is");
        is(x.refIs(1, 0, 3), -2, "told since");
    }

    @Says(promise = 5, value = "-4: there is none to go;")
    void noRefToGo() {
        refused(() -> x.ref(0, 0, 0, -1), -4, "without COMMITS");
        commits(":");
        for (int h = 0; h < 4; h++) {
            int its = h;
            refused(() -> x.ref(its, 0, 0, -1), -4, "of none");
            refused(() -> x.ref(its, 1, 25, -1), -4, "of none");
        }
        branch(0, 'a', 0);
        refused(() -> x.ref(0, 1, 0, -1), -4, "a TAG of its letter");
        refused(() -> x.ref(0, 0, 1, -1), -4, "of another letter");
        refused(() -> x.ref(1, 0, 0, -1), -4, "of another HISTORY");
        is(x.ref(0, 0, 0, -1), 0, "it goes");
        refused(() -> x.ref(0, 0, 0, -1), -4, "it is gone");
        for (int i = 0; i < 8; i++) {
            is(x.ref(0, 0, i, 0), i + 1, "REFS");
        }
        refused(() -> x.ref(0, 0, 8, -1), -4, "of eight other ones");
        refused(() -> x.ref(0, 1, 0, -1), -4, "of eight other ones");
    }

    @Says(promise = 5, value = "k -1: it goes: how many REFS there are;")
    void refGoes() {
        commits(":");
        branch(0, 'a', 0);
        tag(0, 'a', 0);
        is(x.ref(0, 0, 0, -1), 1, "the BRANCH goes");
        is(refs(0), "ta0", "REFS");
        is(x.ref(0, 1, 0, -1), 0, "the TAG goes");
        is(x.count(0), 1, "COMMITS stay");
        for (int i = 0; i < 8; i++) {
            is(x.ref(0, 0, i, 0), i + 1, "REFS");
        }
        is(x.ref(0, 0, 7, -1), 7, "the last one goes");
        is(x.ref(0, 0, 0, -1), 6, "the first one goes");
        is(x.ref(0, 0, 3, -1), 5, "one in the middle goes");
        is(refs(0), "bb0 bc0 be0 bf0 bg0", "REFS");
    }

    @Says(promise = 5, value = "-5: there would be more than 8;")
    void refsAtMost() {
        commits(":", "0:");
        for (int i = 0; i < 8; i++) {
            is(x.ref(0, i % 2, i, 0), i + 1, "REFS");
        }
        for (int letter = 0; letter < 26; letter++) {
            for (int kind = 0; kind < 2; kind++) {
                int its = letter;
                int one = kind;
                if (letter < 8 && letter % 2 == kind) {
                    is(x.ref(0, kind, letter, 1), 8, "in place of one");
                } else {
                    refused(() -> x.ref(0, one, its, 1), -5, "a ninth one");
                }
            }
        }
        refused(() -> x.ref(0, 0, 25, -1), -4, "none to go");
        is(x.ref(1, 0, 25, 1), 1, "of another HISTORY");
        is(x.ref(0, 0, 0, -1), 7, "one goes");
        is(x.ref(0, 0, 25, 1), 8, "one comes");
    }

    @Says(promise = 5, value = "NONE: no such ones.")
    void refNone() {
        commits(":", "0:");
        takes(0, 3, h -> x.ref(h, 0, 0, 0), "HISTORY");
        takes(0, 1, kind -> x.ref(0, kind, 0, 0), "kind");
        takes(0, 25, letter -> x.ref(0, 0, letter, 0), "letter");
        takes(-1, 1, k -> x.ref(2, 1, 7, k), "COMMIT");
        for (int i = 0; i < 8; i++) {
            x.ref(1, 0, i, 0);
        }
        refused(() -> x.ref(1, 0, 9, 2), -1, "asked ahead of -5");
        refused(() -> x.ref(1, 0, 26, -1), -1, "asked ahead of -4");
        refused(() -> x.ref(4, 0, 9, -1), -1, "asked ahead of -4");
    }

    // ---- 6, 7 ----

    @Says(promise = 6, value = "A RUN of PLAN p: how many COMMITS were REWRITTEN;")
    void runCounts() {
        commits(":+a=1", "0:+b=1", "1:+b=2", "0:+c=1");
        is(plan(3, "from:0;to:1;drop:b"), 3, "plan");
        is(x.run(3), 0, "no REFS");
        branch(0, 'a', 2);
        is(x.run(3), 3, "KEPT and EMPTY ones");
        is(x.run(3), 0, "none again");
        branch(0, 'b', 3);
        is(x.run(3), 1, "the other one");
        is(refs(1), "ba0/3 bb3/3", "REFS");
        for (int k = 4; k < 120; k++) {
            is(commit((k == 4 ? 3 : k - 1) + ":", 0, 500 + k), k, "COMMIT " + k);
        }
        branch(0, 'a', 119);
        is(x.run(3), 116, "many");
        is(x.planIs(3, 8), 120, "all");
    }

    @Says(promise = 6, value = "-2: none is told;")
    void runWithoutPlan() {
        commits(":+a=1");
        branch(0, 'a', 0);
        for (int p = 0; p < 4; p++) {
            int its = p;
            refused(() -> x.run(its), -2, "PLAN " + p);
        }
        planFault("from:0;to:0", -3010);
        refused(() -> x.run(0), -2, "PLAN 0, told with a FAULT");
        is(plan(0, "from:0;to:1"), 2, "PLAN 0");
        is(x.run(0), 1, "PLAN 0");
        refused(() -> x.run(1), -2, "PLAN 1");
    }

    /** COMMITS 0 and 1, and others until there are so many; a PLAN that makes two new ones of them. */
    private void nearlyFull(int most) {
        commits(":+a=1", "0:+a=2");
        fill(most);
        branch(0, 'a', 1);
        branch(1, 'z', 0);
        is(plan(0, "from:0;to:1;move:a>b"), 3, "plan");
    }

    @Says(promise = 6, value = "-3: there would be more than 120 COMMITS;")
    void runInAFullStore() {
        nearlyFull(119);
        refused(() -> x.run(0), -3, "121 COMMITS");
        is(x.planIs(0, 8), 0, "nothing is MAPPED");
        is(commit(":+q=1", 0, 0), 119, "the place is free");
        refused(() -> x.run(0), -3, "122 COMMITS");
        x = new CarriedHistory();
        nearlyFull(118);
        is(x.run(0), 2, "just 120 COMMITS");
        is(x.count(0), 120, "COMMITS");
        is(refs(1), "ba119/0 bz0", "REFS");
        is(x.run(0), 0, "nothing is left");
        is(plan(0, "from:0;to:1;move:a>b"), 3, "the same once more");
        is(x.run(0), 2, "they are there already");
        is(plan(0, "from:0;to:1;drop:a"), 3, "one by which none is KEPT");
        is(x.run(0), 2, "none comes");
        is(plan(0, "from:0;to:1;move:a>c"), 3, "one by which new ones come");
        refused(() -> x.run(0), -3, "122 COMMITS");
    }

    /** So many BRANCHES in both HISTORIES, of unlike letters; a PLAN from one to the other. */
    private void manyRefs(int from, int to) {
        commits(":+a=1");
        for (int i = 0; i < from; i++) {
            is(x.ref(0, 0, i, 0), i + 1, "REFS of from");
        }
        for (int i = 0; i < to; i++) {
            is(x.ref(1, 0, 25 - i, 0), i + 1, "REFS of to");
        }
        is(plan(0, "from:0;to:1;move:a>b"), 3, "plan");
    }

    @Says(promise = 6, value = "-5: there would be more than 8 REFS;")
    void runWithManyRefs() {
        for (int from = 1; from <= 8; from++) {
            for (int to = 0; to <= 8; to++) {
                x = new CarriedHistory();
                manyRefs(from, to);
                if (from + to > 8) {
                    refused(() -> x.run(0), -5, from + " and " + to + " REFS");
                    is(x.planIs(0, 8), 0, "nothing is MAPPED");
                    is(x.count(0), 1, "no COMMIT came");
                } else {
                    is(x.run(0), 1, from + " and " + to + " REFS");
                    is(x.historyIs(1, 0), from + to, "REFS");
                    is(x.run(0), 0, "once more: those that it laid go first");
                    is(x.historyIs(1, 0), from + to, "REFS");
                }
            }
        }
        x = new CarriedHistory();
        manyRefs(4, 5);
        is(x.ref(1, 0, 0, 0), 6, "one of a letter that will be laid");
        refused(() -> x.run(0), -5, "nine REFS");
        is(x.ref(1, 0, 1, 0), 7, "one more of these");
        refused(() -> x.run(0), -5, "nine REFS");
        is(x.ref(1, 0, 25, -1), 6, "one goes");
        is(x.run(0), 1, "just eight");
        is(x.historyIs(1, 0), 8, "REFS");
    }

    @Says(promise = 6, value = "-3: there would be more than 120 COMMITS; -5: there would be more than 8 REFS;")
    void runBoth() {
        manyRefs(5, 5);
        fill(120);
        refused(() -> x.run(0), -3, "both");
        is(x.ref(1, 0, 25, -1), 4, "a REF goes");
        is(x.ref(1, 0, 24, -1), 3, "a REF goes");
        refused(() -> x.run(0), -3, "120 COMMITS");
        is(plan(0, "from:0;to:1"), 2, "by which none comes");
        is(x.run(0), 1, "none comes");
    }

    @Says(promise = 6, value = "NONE: no such PLAN.")
    void runNone() {
        takes(0, 3, p -> x.run(p), "PLAN none of which is told");
        commits(":");
        branch(0, 'a', 0);
        for (int p = 0; p < 4; p++) {
            is(plan(p, "from:0;to:1"), 2, "plan");
        }
        takes(0, 3, p -> x.run(p), "PLAN");
    }

    @Says(promise = 7, value = "PLAN p ANEW: how many COMMITS there are more than ahead;")
    void againCounts() {
        commits(":+a=1", "0:+b=1", "1:+a=2");
        branch(0, 'a', 2);
        is(plan(3, "from:0;to:1;move:a>c"), 3, "plan");
        is(x.again(3), 3, "the first time");
        is(x.again(3), 0, "all are there already");
        is(x.count(0), 6, "COMMITS");
        is(plan(3, "from:0;to:1;drop:b;move:a>c"), 4, "plan");
        is(x.again(3), 1, "two KEPT, one of them new");
        is(plan(3, "from:0;to:1;drop:a;drop:b"), 4, "plan");
        is(x.again(3), 0, "none is KEPT");
        is(x.planIs(3, 8), 3, "MAPPED");
        is(plan(3, "from:2;to:1"), 2, "plan");
        is(x.again(3), 0, "no REFS");
    }

    @Says(promise = 7, value = "-2, -3, -5 (what was MAPPED stays so), NONE as run().")
    void againWithoutPlan() {
        commits(":+a=1");
        branch(0, 'a', 0);
        for (int p = 0; p < 4; p++) {
            int its = p;
            refused(() -> x.again(its), -2, "PLAN " + p);
        }
        is(plan(0, "from:0;to:1"), 2, "PLAN 0");
        is(x.again(0), 0, "PLAN 0");
        refused(() -> x.again(1), -2, "PLAN 1");
    }

    @Says(promise = 7, value = "-2, -3, -5 (what was MAPPED stays so), NONE as run().")
    void againInAFullStore() {
        nearlyFull(116);
        is(x.run(0), 2, "run");
        branch(0, 'a', 0);
        is(x.again(0), 0, "118 COMMITS");
        is(x.planIs(0, 8), 1, "MAPPED");
        commits("1:+a=3");
        branch(0, 'a', 118);
        is(x.again(0), 1, "just 120 COMMITS");
        is(x.planIs(0, 8), 3, "MAPPED");
        x = new CarriedHistory();
        nearlyFull(116);
        is(x.run(0), 2, "run");
        branch(0, 'a', 0);
        is(x.again(0), 0, "118 COMMITS");
        fill(119);
        commits("1:+a=3");
        branch(0, 'a', 119);
        refused(() -> x.again(0), -3, "122 COMMITS");
        is(x.planIs(0, 8), 1, "what was MAPPED stays so");
        is(x.image(0, 0, 0), 116, "its IMAGE");
        is(x.image(0, 1, 0), -4, "no more");
    }

    @Says(promise = 7, value = "-2, -3, -5 (what was MAPPED stays so), NONE as run().")
    void againWithManyRefs() {
        manyRefs(4, 4);
        is(x.again(0), 1, "just eight REFS");
        is(x.historyIs(1, 0), 8, "REFS");
        is(x.again(0), 0, "those that it laid go first");
        commits("0:+c=1");
        is(x.ref(0, 0, 0, 2), 4, "elsewhere");
        is(x.ref(0, 0, 4, 2), 5, "one more");
        refused(() -> x.again(0), -5, "nine REFS");
        is(x.planIs(0, 8), 1, "what was MAPPED stays so");
        is(x.image(0, 0, 0), 1, "its IMAGE");
        is(x.image(0, 2, 0), -4, "no more");
        is(x.count(0), 3, "no COMMIT came");
        fill(120);
        refused(() -> x.again(0), -3, "both");
        is(x.ref(0, 0, 0, 0), 5, "where it was");
        is(x.ref(0, 0, 4, 0), 5, "there, too");
        refused(() -> x.again(0), -5, "nine REFS");
        is(x.ref(0, 0, 4, -1), 4, "one goes");
        is(x.again(0), 0, "eight REFS");
    }

    @Says(promise = 7, value = "-2, -3, -5 (what was MAPPED stays so), NONE as run().")
    void againNone() {
        takes(0, 3, p -> x.again(p), "PLAN, none of which is told");
        commits(":+a=1");
        branch(0, 'a', 0);
        for (int p = 0; p < 4; p++) {
            is(plan(p, "from:0;to:1"), 2, "plan");
        }
        takes(0, 3, p -> x.again(p), "PLAN");
    }

    // ---- 8 ----

    @Says(promise = 8, value = "BRANCHES a and b (letters, unlike) of HISTORY h are joined: a COMMIT of both COMMITS as PARENTS,")
    void joinParents() {
        commits(":+a=1", ":+b=1", "1:+a=1");
        x.ref(3, 0, 25, 0);
        x.ref(3, 0, 0, 1);
        is(x.join(3, 25, 0, 0, 0), 3, "z and a");
        is(spelt(3), "0,1:a=1;b=1:", "PARENTS in that order");
        x.ref(3, 0, 25, 0);
        is(x.join(3, 0, 25, 0, 0), 4, "a and z");
        is(spelt(4), "1,0:a=1;b=1:", "PARENTS in that order");
        refused(() -> x.join(3, 0, 0, 0, 0), -1, "like letters");
        refused(() -> x.join(3, 7, 7, 0, 0), -1, "like letters, no BRANCHES");
    }

    @Says(promise = 8, value = "with FILES of both TREES (alike in both: once), without MESSAGE, WHO, HOUR as told; BRANCH a is told to be at it: its number;")
    void joinFiles() {
        commits(":+a=1;+c=3:m", ":+b=2;+c=3:n", ":", "2:", "2::x");
        branch(0, 'a', 0);
        branch(0, 'b', 1);
        is(x.join(0, 0, 1, 9, 999), 5, "joined");
        is(spelt(5), "0,1:a=1;b=2;c=3:", "FILES, no MESSAGE");
        is(x.commitIs(5, 1), 9, "WHO");
        is(x.commitIs(5, 2), 999, "HOUR");
        is(refs(0), "ba5 bb1", "REFS");
        branch(0, 'a', 0);
        is(x.join(0, 0, 1, 9, 999), 5, "it is there already");
        is(refs(0), "ba5 bb1", "REFS");
        branch(1, 'a', 3);
        branch(1, 'b', 4);
        is(x.join(1, 0, 1, 0, 0), 6, "without FILES");
        is(spelt(6), "3,4::", "without FILES");
        branch(0, 'b', 6);
        is(x.join(0, 1, 0, 0, 0), 7, "without FILES and with some");
        is(spelt(7), "6,5:a=1;b=2;c=3:", "FILES of one alone");
        is(plan(3, "from:0;to:2"), 2, "plan");
        is(x.run(3) > 0, true, "run");
        is(x.ref(2, 0, 1, 0), 2, "BRANCH b of HISTORY 2");
        is(x.ref(2, 0, 2, 6), 3, "BRANCH c of HISTORY 2");
        is(x.refIs(2, 0, 3), 3, "BRANCH a is laid");
        is(x.join(2, 0, 2, 0, 0) > 0, true, "joined");
        is(x.refIs(2, 0, 3), -2, "BRANCH a is told since");
    }

    @Says(promise = 8, value = "-4: there are no such BRANCHES;")
    void joinNoBranches() {
        commits(":", ":+a=1");
        refused(() -> x.join(0, 0, 1, 0, 0), -4, "none");
        branch(0, 'a', 0);
        refused(() -> x.join(0, 0, 1, 0, 0), -4, "the first alone");
        refused(() -> x.join(0, 1, 0, 0, 0), -4, "the second alone");
        tag(0, 'b', 1);
        refused(() -> x.join(0, 0, 1, 0, 0), -4, "a TAG is none");
        branch(1, 'b', 1);
        refused(() -> x.join(0, 0, 1, 0, 0), -4, "of another HISTORY");
        branch(0, 'b', 1);
        is(x.join(0, 0, 1, 0, 0), 2, "both");
    }

    @Says(promise = 8, value = "-7: both are at one COMMIT, or one's is an ANCESTOR of the other's;")
    void joinAncestors() {
        commits(":+a=1", "0:+a=2", "1:-a;+a/x=1", "0:+b=1");
        branch(0, 'a', 0);
        branch(0, 'b', 0);
        refused(() -> x.join(0, 0, 1, 0, 0), -7, "at one COMMIT");
        branch(0, 'b', 1);
        refused(() -> x.join(0, 0, 1, 0, 0), -7, "a PARENT, though CONTENTS are unlike");
        refused(() -> x.join(0, 1, 0, 0, 0), -7, "the other way round");
        branch(0, 'b', 2);
        refused(() -> x.join(0, 0, 1, 0, 0), -7, "an ANCESTOR, though a PATH is a BEGINNING");
        refused(() -> x.join(0, 1, 0, 0, 0), -7, "the other way round");
        branch(0, 'a', 3);
        refused(() -> x.join(0, 0, 1, 0, 0), -6, "beside");
        branch(0, 'b', 0);
        fill(120);
        refused(() -> x.join(0, 0, 1, 0, 0), -7, "told ahead of -3");
    }

    @Says(promise = 8, value = "-6: a PATH has unlike CONTENTS, or is a BEGINNING of one of the other TREE;")
    void joinUnlike() {
        commits(":+a/b=1;+c=1", ":+a/b=2", ":+a/b=01", ":+a=1", ":+a/b/c/d=1", ":+c/x=1", ":+a/c=1", ":+c=1", ":" + EIGHT + ";" + OTHER_EIGHT);
        branch(0, 'a', 0);
        for (int k = 1; k < 6; k++) {
            branch(0, 'b', k);
            refused(() -> x.join(0, 0, 1, 0, 0), -6, spelt(0) + " and " + spelt(k));
            refused(() -> x.join(0, 1, 0, 0, 0), -6, spelt(k) + " and " + spelt(0));
        }
        branch(0, 'b', 8);
        refused(() -> x.join(0, 0, 1, 0, 0), -6, "told ahead of -5");
        branch(0, 'b', 6);
        is(x.join(0, 0, 1, 0, 0), 9, "beside");
        branch(0, 'a', 0);
        branch(0, 'b', 7);
        is(x.join(0, 0, 1, 0, 0), 10, "like CONTENTS");
        fill(120);
        branch(0, 'b', 1);
        branch(0, 'a', 0);
        refused(() -> x.join(0, 0, 1, 0, 0), -6, "told ahead of -3");
    }

    @Says(promise = 8, value = "-5: there would be more than 16 FILES;")
    void joinManyFiles() {
        commits(":" + EIGHT, ":" + OTHER_EIGHT, "1:+q=1", "2:+a=1", "2:-i");
        branch(0, 'a', 0);
        branch(0, 'b', 2);
        refused(() -> x.join(0, 0, 1, 0, 0), -5, "seventeen");
        refused(() -> x.join(0, 1, 0, 0, 0), -5, "seventeen");
        branch(0, 'b', 3);
        refused(() -> x.join(0, 0, 1, 0, 0), -5, "seventeen, one of them in both");
        branch(0, 'b', 1);
        is(x.join(0, 0, 1, 0, 0), 5, "sixteen");
        is(x.commitIs(5, 3), 16, "FILES");
        branch(0, 'a', 0);
        branch(0, 'b', 4);
        is(x.join(0, 0, 1, 0, 0), 6, "sixteen");
        fill(120);
        branch(0, 'a', 0);
        branch(0, 'b', 2);
        refused(() -> x.join(0, 0, 1, 0, 0), -5, "told ahead of -3");
        x = new CarriedHistory();
        String all = ":" + EIGHT + ";" + OTHER_EIGHT;
        commits(all, ":+z=1", all + ":m");
        branch(0, 'a', 0);
        branch(0, 'b', 2);
        is(x.join(0, 0, 1, 0, 0), 3, "sixteen, all in both");
        branch(0, 'a', 0);
        branch(0, 'b', 1);
        refused(() -> x.join(0, 0, 1, 0, 0), -5, "seventeen");
    }

    @Says(promise = 8, value = "-3: it is not there and there are 120 COMMITS; of these the first told;")
    void joinInAFullStore() {
        commits(":+a=1", ":+b=1", "0,1:+b=1");
        fill(119);
        branch(0, 'a', 0);
        branch(0, 'b', 1);
        is(x.join(0, 0, 1, 0, 0), 119, "the last one");
        branch(0, 'a', 0);
        refused(() -> x.join(0, 0, 1, 0, 1), -3, "of another HOUR");
        refused(() -> x.join(0, 0, 1, 1, 0), -3, "of another WHO");
        refused(() -> x.join(0, 1, 0, 0, 0), -3, "of another order");
        refused(() -> x.join(0, 0, 2, 0, 1), -4, "no BRANCH is told ahead");
        is(refs(0), "ba0 bb1", "REFS stay");
        is(x.join(0, 0, 1, 0, 2), 2, "one that is there");
        is(refs(0), "ba2 bb1", "BRANCH a is at it");
    }

    @Says(promise = 8, value = "NONE: no such numbers.")
    void joinNone() {
        commits(":+a=1", ":+b=1");
        for (int h = 0; h < 4; h++) {
            for (int letter : new int[] {0, 1, 25}) {
                x.ref(h, 0, letter, letter % 2);
            }
        }
        takes(0, 3, h -> x.join(h, 0, 1, 0, 0), "HISTORY");
        takes(0, 25, a -> x.join(1, a, 1, 0, 0), "the first letter");
        takes(0, 25, b -> x.join(1, 1, b, 0, 0), "the second letter");
        takes(0, 9, who -> x.join(2, 0, 1, who, 0), "WHO");
        takes(0, 999, hour -> x.join(2, 1, 0, 0, hour), "HOUR");
        refused(() -> x.join(0, 5, 6, 10, 0), -1, "asked ahead of -4");
        refused(() -> x.join(0, 5, 6, 0, -1), -1, "asked ahead of -4");
        refused(() -> x.join(0, 5, 5, 0, 0), -1, "asked ahead of -4");
    }

    // ---- 9 ----

    @Says(promise = 9, value = "A REPLAY of COMMIT k onto BRANCH a (a letter) of HISTORY h, which is told to be at it then: its number;")
    void replayed() {
        commits(":+a=1", "0:+b=2:m", "0:+c=3");
        x.ref(3, 0, 25, 2);
        is(x.replay(3, 25, 1), 3, "replayed");
        is(spelt(3), "2:a=1;b=2;c=3:m", "the COMMIT");
        is(refs(3), "bz3", "the BRANCH is at it");
        x.ref(3, 0, 25, 2);
        is(x.replay(3, 25, 1), 3, "it is there already");
        is(refs(3), "bz3", "the BRANCH is at it");
        x.ref(3, 0, 25, 0);
        is(x.replay(3, 25, 1), 1, "onto its own PARENT it is itself");
        is(refs(3), "bz1", "the BRANCH is at it");
        is(plan(1, "from:3;to:0"), 2, "plan");
        is(x.run(1), 2, "run");
        is(refs(0), "bz1/1", "laid");
        is(x.replay(0, 25, 2), 4, "replayed");
        is(refs(0), "bz4", "told since");
    }

    @Says(promise = 9, value = "A REPLAY of COMMIT k onto BRANCH a (a letter) of HISTORY h, which is told to be at it then: its number;")
    void replayedGone() {
        commits(":+a=1;+b=2;+c=3;+d=4", "0:-b", "0:-b;-c", "0:-a", "0:-d", "0:-a;-b;-c;-d", "0:+e=5");
        String[] due = {"a=1;c=3;d=4;z=7", "a=1;d=4;z=7", "b=2;c=3;d=4;z=7", "a=1;b=2;c=3;z=7", "z=7", "a=1;b=2;c=3;d=4;e=5;z=7"};
        for (int k = 1; k < 7; k++) {
            branch(0, 'a', commit("0:+z=7", 3, 9));
            is(x.commitIs(5, 8), 4, "another CHANGE is asked ahead");
            is(spelt(x.replay(0, 0, k)).split(":")[1], due[k - 1], "replay of " + spelt(k));
        }
    }

    @Says(promise = 9, value = "-4: there is no such BRANCH;")
    void replayNoBranch() {
        commits(":+a=1", "0:+b=2");
        refused(() -> x.replay(0, 0, 1), -4, "none");
        tag(0, 'a', 0);
        branch(0, 'b', 0);
        branch(1, 'a', 0);
        refused(() -> x.replay(0, 0, 1), -4, "a TAG, another letter, another HISTORY");
        fill(120);
        refused(() -> x.replay(0, 0, 1), -4, "told ahead of -3");
        branch(0, 'a', 0);
        is(x.replay(0, 0, 1), 1, "there is one");
    }

    @Says(promise = 9, value = "-6: a PATH is neither as it was nor as it is, or would be a BEGINNING of another one's;")
    void replayUnlike() {
        commits(":+a=1;+b=2", "0:+a=9;-b;+c=3;+d/e=4");
        String[] ones = {"+a=2;+b=2", "+b=2", "+a=1;+b=3", "+a=1;+b=2;+c=4", "+a=1;+b=2;+d/e=5", "+a/x=1;+b=2", "+a=1;+b=2;+c/x=1",
            "+a=1;+b=2;+d=1", "+a=1;+b=2;+d/e/f=1", "+a=1;+b=2;+c/x/y=3", "+a=9;+b=2;+c=3;+d=4", "+a=1;+b=02"};
        for (String one : ones) {
            branch(0, 'a', commit(":" + one, 7, 7));
            refused(() -> x.replay(0, 0, 1), -6, "replay onto " + one);
        }
        commits(":+a=1;+b=2;+d/f=4");
        branch(0, 'a', x.count(0) - 1);
        is(x.replay(0, 0, 1), x.count(0) - 1, "beside");
        is(commit(":+a=1;+b=3;" + EIGHT.substring(10).replace("+", "+x/") + ";" + OTHER_EIGHT, 8, 8) > 0, true, "sixteen FILES");
        branch(0, 'a', x.count(0) - 1);
        is(x.commitIs(x.count(0) - 1, 3), 16, "FILES");
        refused(() -> x.replay(0, 0, 1), -6, "told ahead of -5");
        is(commit(":+a=1;+b=2;+d=1;" + EIGHT.substring(15).replace("+", "+x/") + ";" + OTHER_EIGHT, 8, 8) > 0, true, "sixteen FILES");
        branch(0, 'a', x.count(0) - 1);
        refused(() -> x.replay(0, 0, 1), -6, "told ahead of -5");
        fill(120);
        refused(() -> x.replay(0, 0, 1), -6, "told ahead of -3");
    }

    @Says(promise = 9, value = "-5: there would be more than 16 FILES;")
    void replayManyFiles() {
        commits(":" + EIGHT + ";" + OTHER_EIGHT, "0:-a", "1:-b", ":+x=1;+y=1", ":+a=1", "4:-a;+x=1", "4:-a;+x=1;+y=1");
        branch(0, 'a', 0);
        refused(() -> x.replay(0, 0, 3), -5, "eighteen");
        refused(() -> x.replay(0, 0, 6), -5, "seventeen");
        branch(0, 'b', 1);
        refused(() -> x.replay(0, 1, 3), -5, "seventeen");
        branch(0, 'c', 2);
        is(x.replay(0, 2, 3), 7, "sixteen");
        is(x.commitIs(7, 3), 16, "FILES");
        is(x.replay(0, 0, 5), 8, "one goes, one comes");
        is(x.commitIs(8, 3), 16, "FILES");
        branch(0, 'a', 0);
        fill(120);
        refused(() -> x.replay(0, 0, 3), -5, "told ahead of -3");
    }

    @Says(promise = 9, value = "-8: the TREE would be that of the BRANCH;")
    void replayNothing() {
        commits(":+a=1", "0:+a=2;+b=1", "0:", ":+a=2;+b=1;+c=1", ":", "4:");
        branch(0, 'a', 3);
        refused(() -> x.replay(0, 0, 1), -8, "all is so already");
        refused(() -> x.replay(0, 0, 2), -8, "a CHANGE of nothing");
        refused(() -> x.replay(0, 0, 4), -8, "a CHANGE of nothing, without PARENTS");
        branch(0, 'b', 1);
        refused(() -> x.replay(0, 1, 1), -8, "onto itself");
        branch(0, 'c', 5);
        refused(() -> x.replay(0, 2, 2), -8, "without FILES");
        branch(0, 'd', 0);
        is(x.replay(0, 3, 1), 1, "onto its PARENT");
        fill(120);
        refused(() -> x.replay(0, 0, 1), -8, "told ahead of -3");
    }

    @Says(promise = 9, value = "-3: it is not there and there are 120 COMMITS; of these the first told;")
    void replayInAFullStore() {
        commits(":+a=1", "0:+b=1", "0:+c=1", "0:+d=1");
        fill(119);
        branch(0, 'a', 2);
        is(x.replay(0, 0, 1), 119, "the last one");
        branch(0, 'a', 2);
        refused(() -> x.replay(0, 0, 3), -3, "one more");
        is(refs(0), "ba2", "the BRANCH stays");
        is(x.replay(0, 0, 1), 119, "one that is there");
        is(refs(0), "ba119", "the BRANCH is at it");
    }

    @Says(promise = 9, value = "NONE: no such numbers.")
    void replayNone() {
        commits(":+a=1", "0:+b=1", "0:+c=1");
        for (int h = 0; h < 4; h++) {
            x.ref(h, 0, 0, 2);
        }
        takes(0, 3, h -> x.replay(h, 0, 1), "HISTORY");
        takes(0, 25, a -> x.replay(0, a, 1), "the letter");
        int most = x.count(0) - 1;
        takes(0, most, k -> x.replay(0, 0, k), "COMMIT");
        refused(() -> x.replay(0, 9, most + 1), -1, "asked ahead of -4");
        refused(() -> x.replay(0, 26, 0), -1, "asked ahead of -4");
    }
}
