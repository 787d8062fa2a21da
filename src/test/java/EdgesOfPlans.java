/** The edges of "==== 1": HISTORIES, REFS and PLANS, and how a PLAN's text is read. */
final class EdgesOfPlans extends Desk {
    private static final String LETTERS = "abcdefghijklmnopqrstuvwxyz";
    private static final String DIGITS = "0123456789";
    /** Twelve bytes, behind which the other LINES are told. */
    private static final String TO = "from:0;to:1;";
    private static final String[] FIRST_SIX = {"keep", "drop", "move", "swap", "word", "graft"};

    private void five() {
        commits(":+a=1", "0:+b=2", "1:", "2:", "3:");
    }

    /** Of all bytes those told may stand behind this beginning of a text; each other one is FAULT 1 there. */
    private void only(String ahead, String may) {
        for (char sign = 0; sign < 256; sign++) {
            x = new CarriedHistory();
            five();
            boolean isFault = plan(0, ahead + sign) == -1000 - ahead.length();
            is(isFault, may.indexOf(sign) < 0, "FAULT 1 of byte " + (int) sign + " behind " + ahead);
        }
    }

    /** The text cannot end here. */
    private void noEnd(String... texts) {
        for (String text : texts) {
            planFault(text, -1000 - text.length());
        }
    }

    /** LINES behind the first two, told with a FAULT of this number at a place of the whole text. */
    private void lines(String lines, int due) {
        planFault(TO + lines, due);
    }

    private void told(String lines, int due) {
        is(plan(0, TO + lines), due, "plan " + lines);
    }

    /** A LINE of each of the first six words, unlike ones by their numbers. */
    private static String line(String word, int i) {
        char letter = (char) ('a' + i);
        switch (word) {
            case "keep":
            case "drop": return word + ":" + letter;
            case "move":
            case "word": return word + ":" + letter + ">z";
            case "swap": return word + ":" + i + ">9";
            default: return word + ":" + i + ">.";
        }
    }

    // ---- HISTORIES ----

    @Says("HISTORIES 0 to 3: REFS (8 at most; none at first):")
    void refsAtMost() {
        five();
        for (int h = 0; h < 4; h++) {
            is(x.historyIs(h, 0), 0, "REFS at first of HISTORY " + h);
            for (int i = 0; i < 8; i++) {
                is(x.ref(h, i / 4, i, 0), i + 1, "REF " + i);
            }
            int its = h;
            refused(() -> x.ref(its, 0, 25, 0), -5, "a ninth one");
            refused(() -> x.ref(its, 1, 25, 0), -5, "a ninth one");
            is(x.historyIs(h, 0), 8, "REFS of HISTORY " + h);
        }
        is(x.count(5), 32, "REFS of all");
        refused(() -> x.ref(4, 0, 0, 0), -1, "HISTORY 4");
        refused(() -> x.ref(-1, 0, 0, 0), -1, "HISTORY -1");
        is(x.historyIs(4, 0), -1, "HISTORY 4");
    }

    @Says("BRANCHES and TAGS, each by a letter (0 a to 25 z), at a COMMIT each;")
    void lettersOfRefs() {
        five();
        is(x.ref(0, 0, 0, 4), 1, "BRANCH a");
        is(x.ref(0, 0, 25, 3), 2, "BRANCH z");
        is(x.ref(0, 1, 0, 2), 3, "TAG a");
        is(x.ref(0, 1, 25, 1), 4, "TAG z");
        is(refs(0), "ba4 bz3 ta2 tz1", "REFS");
        is(x.ref(0, 0, 0, 0), 4, "BRANCH a elsewhere");
        is(refs(0), "ba0 bz3 ta2 tz1", "REFS");
        refused(() -> x.ref(0, 0, 26, 0), -1, "letter 26");
        refused(() -> x.ref(0, 1, -1, 0), -1, "letter -1");
    }

    @Says("in order: BRANCHES by their letters, then TAGS.")
    void orderOfRefs() {
        five();
        tag(0, 'b', 0);
        branch(0, 'z', 1);
        tag(0, 'a', 2);
        branch(0, 'm', 3);
        branch(0, 'a', 4);
        tag(0, 'z', 0);
        branch(0, 'n', 1);
        tag(0, 'm', 2);
        is(refs(0), "ba4 bm3 bn1 bz1 ta2 tb0 tm2 tz0", "REFS");
        is(x.ref(0, 0, 12, -1), 7, "BRANCH m goes");
        is(x.ref(0, 1, 1, -1), 6, "TAG b goes");
        branch(0, 'b', 0);
        is(refs(0), "ba4 bb0 bn1 bz1 ta2 tm2 tz0", "REFS");
    }

    @Says("COMMITS of a HISTORY: those that REFS are at and their ANCESTORS.")
    void commitsOfAHistory() {
        commits(":", "0:", "1:", "0:", "3,2:", "4:");
        is(x.historyIs(0, 1), 0, "none");
        tag(0, 'a', 2);
        is(x.historyIs(0, 1), 3, "of a TAG");
        branch(0, 'a', 3);
        is(x.historyIs(0, 1), 4, "of a BRANCH, too, each once");
        branch(0, 'b', 4);
        is(x.historyIs(0, 1), 5, "not what comes behind");
        is(x.historyIs(1, 1), 0, "of another HISTORY");
    }

    // ---- PLANS ----

    @Says("PLANS 0 to 3 (none told at first), each a text (240 bytes at most, no blanks) of LINES")
    void plansToldAtFirst() {
        is(x.count(4), 0, "PLANS");
        for (int p = 0; p < 4; p++) {
            is(x.planIs(p, 0), -2, "PLAN " + p);
            is(x.run(p), -2, "PLAN " + p);
        }
        for (int p = 0; p < 4; p++) {
            is(plan(p, "from:" + p + ";to:" + (3 - p)), 2, "PLAN " + p);
            is(x.count(4), p + 1, "PLANS");
            is(x.planIs(p, 0), p, "from");
            is(x.planIs(p, 1), 3 - p, "to");
        }
        tell("from:0;to:1");
        refused(() -> x.plan(4, 11), -1, "PLAN 4");
        refused(() -> x.plan(-1, 11), -1, "PLAN -1");
    }

    @Says("PLANS 0 to 3 (none told at first), each a text (240 bytes at most, no blanks) of LINES")
    void lengthOfAPlan() {
        String most = "from:0;to:1;since:012" + ";skip:1".repeat(29) + ";drop:a/b;keep:a";
        is(most.length(), 240, "bytes");
        is(plan(0, most), 34, "240 bytes");
        tell(most + ";");
        refused(() -> x.plan(0, 241), -1, "241 bytes");
        is(x.plan(0, 239), -1239, "239 bytes");
        tell("from:0;to:1");
        refused(() -> x.plan(0, 0), -1, "no byte");
        refused(() -> x.plan(0, 21), -1, "more than there are");
        is(x.plan(0, 1), -1000, "one byte");
    }

    @Says("PLANS 0 to 3 (none told at first), each a text (240 bytes at most, no blanks) of LINES")
    void blanks() {
        five();
        String text = "from:0;to:1;move:a>b/c;graft:1>0;since:12";
        int word = 0;
        for (int at = 0; at <= text.length(); at++) {
            boolean isWord = at < text.length() && LETTERS.indexOf(text.charAt(at)) >= 0 && text.indexOf(':', at) >= 0
                && text.substring(at, text.indexOf(':', at)).chars().allMatch(Character::isLetter);
            word = at == 0 || text.charAt(at - 1) == ';' ? at : word;
            planFault(text.substring(0, at) + " " + text.substring(at), -1000 - (isWord ? word : at));
        }
        is(plan(0, text), 5, "without a blank");
    }

    @Says("with a ; (59) between two, each a word, : (58), and what follows:")
    void signsOfLines() {
        only("from:0", ";");
        only("from:0;to:1", ";");
        only("from", ":" + LETTERS);
        only("from:0;to", ":" + LETTERS);
        for (String word : new String[] {"keep", "drop", "move", "swap", "word", "graft", "sign", "skip", "merges", "empty",
            "tags", "since", "most"}) {
            only(TO + word, ":" + LETTERS);
        }
        noEnd("from", "from:", "from:0", "from:0;", "from:0;to", "from:0;to:", TO, TO + "keep", TO + "keep:", TO + "keep:a;");
        noEnd(TO + "merges", TO + "since:");
        is(plan(0, "from:0;to:1"), 2, "two LINES");
    }

    @Says("first from and a digit 0 to 3, then to and a digit 0 to 3 (HISTORIES, unlike),")
    void fromAndTo() {
        for (int from = 0; from < 10; from++) {
            for (int to = 0; to < 10; to++) {
                String text = "from:" + from + ";to:" + to;
                if (from > 3) {
                    planFault(text, -3005);
                } else if (to > 3 || to == from) {
                    planFault(text, -3010);
                } else {
                    is(plan(1, text), 2, text);
                    is(x.planIs(1, 0), from, "from");
                    is(x.planIs(1, 1), to, "to");
                }
            }
        }
        only("from:", DIGITS);
        only("from:0;to:", DIGITS);
        planFault("from:00;to:1", -1006);
        planFault("from:0;to:01", -3010);
        planFault("from:1;to:01", -1011);
        planFault("to:1;from:0", -1000);
    }

    @Says("then any of: keep and a PATH; drop and a PATH;")
    void keepsAndDrops() {
        for (String word : new String[] {"keep", "drop"}) {
            only(TO + word + ":", LETTERS);
            only(TO + word + ":a", "/;");
            only(TO + word + ":a/", LETTERS);
            only(TO + word + ":a/b/c/d", "/;");
            told(word + ":a;" + word + ":a/b/c/d;" + word + ":a", 5);
            lines(word + ":a/b/c/d/e", -5025);
            lines(word + ":.", -1017);
            noEnd(TO + word + ":", TO + word + ":a/", TO + word + ":a;");
        }
        told("keep:a;drop:a", 4);
    }

    @Says("move and a PLACE, > (62), a PLACE (a PATH, or . (46) without NAMES);")
    void moves() {
        only(TO + "move:", LETTERS + ".");
        only(TO + "move:.", ">");
        only(TO + "move:a", "/>");
        only(TO + "move:a/", LETTERS);
        only(TO + "move:a>", LETTERS + ".");
        only(TO + "move:a>.", ";");
        only(TO + "move:a>b", "/;");
        only(TO + "move:a>b/", LETTERS);
        told("move:.>.;move:a>.;move:a/b/c/d>d/c/b/a;move:b>b", 6);
        lines("move:a/b/c/d/e>.", -5025);
        lines("move:.>a/b/c/d/e", -5027);
        noEnd(TO + "move:", TO + "move:a", TO + "move:.", TO + "move:a>", TO + "move:.>", TO + "move:a>b/");
    }

    @Says("swap and a CONTENT, >, a CONTENT;")
    void swaps() {
        only(TO + "swap:", DIGITS);
        only(TO + "swap:1", DIGITS + ">");
        only(TO + "swap:123456", DIGITS + ">");
        only(TO + "swap:1>", DIGITS);
        only(TO + "swap:1>1", DIGITS + ";");
        only(TO + "swap:1>123456", DIGITS + ";");
        told("swap:1>01;swap:01>1;swap:000000>999999;swap:999999>0", 6);
        lines("swap:1234567>1", -2023);
        lines("swap:1>1234567", -2025);
        noEnd(TO + "swap:", TO + "swap:1", TO + "swap:1>");
    }

    @Says("word and a WORD (1 to 4 letters a to z), >, a WORD;")
    void words() {
        only(TO + "word:", LETTERS);
        only(TO + "word:a", LETTERS + ">");
        only(TO + "word:abcd", LETTERS + ">");
        only(TO + "word:a>", LETTERS);
        only(TO + "word:a>a", LETTERS + ";");
        only(TO + "word:a>abcd", LETTERS + ";");
        told("word:a>z;word:zzzz>aaaa;word:aa>a;word:aaaa>aaaa", 6);
        lines("word:abcde>a", -2021);
        lines("word:a>abcde", -2023);
        noEnd(TO + "word:", TO + "word:a", TO + "word:a>");
    }

    @Says("graft and a COMMIT's number, >, a lower one's or . (numbers of one to three digits)")
    void grafts() {
        only(TO + "graft:", DIGITS);
        only(TO + "graft:1", DIGITS + ">");
        only(TO + "graft:001", DIGITS + ">");
        only(TO + "graft:1>", DIGITS + ".");
        only(TO + "graft:1>0", DIGITS + ";");
        only(TO + "graft:1>000", DIGITS + ";");
        only(TO + "graft:1>.", ";");
        told("graft:4>3;graft:003>000;graft:01>00;graft:0>.", 6);
        lines("graft:0001>0", -2021);
        lines("graft:1>0000", -2023);
        lines("graft:.>1", -1018);
        noEnd(TO + "graft:", TO + "graft:1", TO + "graft:1>");
    }

    @Says("(4 at most of each of these);")
    void fourAtMost() {
        five();
        StringBuilder all = new StringBuilder(TO);
        for (String word : FIRST_SIX) {
            StringBuilder four = new StringBuilder(TO);
            for (int i = 0; i < 4; i++) {
                four.append(i == 0 ? "" : ";").append(line(word, i));
                is(plan(0, four.toString()), 3 + i, "plan " + four);
            }
            planFault(four + ";" + line(word, 4), -4001 - four.length());
            all.append(all.length() == 12 ? "" : ";").append(four.substring(12));
        }
        is(plan(0, all.toString()), 26, "four of each");
    }

    @Says("sign and a digit, >, a digit (WHO);")
    void signs() {
        only(TO + "sign:", DIGITS);
        only(TO + "sign:1", ">");
        only(TO + "sign:1>", DIGITS);
        only(TO + "sign:1>1", ";");
        StringBuilder ten = new StringBuilder();
        for (int who = 0; who < 10; who++) {
            ten.append(who == 0 ? "" : ";").append("sign:" + who + ">" + (9 - who));
        }
        told(ten.toString(), 12);
        is(x.planIs(0, 20), 10, "signs");
        noEnd(TO + "sign:", TO + "sign:1", TO + "sign:1>");
    }

    @Says("skip and a digit (WHO);")
    void skips() {
        only(TO + "skip:", DIGITS);
        only(TO + "skip:1", ";");
        told("skip:0;skip:9;skip:0;skip:9;skip:0;skip:9;skip:9", 9);
        is(x.planIs(0, 14), 513, "WHO that are skipped");
        told("skip:0;skip:1;skip:2;skip:3;skip:4;skip:5;skip:6;skip:7;skip:8;skip:9", 12);
        is(x.planIs(0, 14), 1023, "all");
        noEnd(TO + "skip:");
    }

    @Says("and once each: merges and a digit 0 to 3, empty 0 to 2, tags 0 to 2 (not told: 1, 2, 2),")
    void mergesEmptyTags() {
        String[] words = {"merges", "empty", "tags"};
        int[] most = {3, 2, 2};
        for (int i = 0; i < 3; i++) {
            for (int digit = 0; digit < 10; digit++) {
                if (digit > most[i]) {
                    lines(words[i] + ":" + digit, -3013 - words[i].length());
                } else {
                    told(words[i] + ":" + digit, 3);
                    int[] due = {1, 2, 2};
                    due[i] = digit;
                    for (int what = 5; what < 8; what++) {
                        is(x.planIs(0, what), due[what - 5], "planIs " + what + " of " + words[i] + " " + digit);
                    }
                }
            }
            only(TO + words[i] + ":", DIGITS);
            only(TO + words[i] + ":1", ";");
            noEnd(TO + words[i] + ":");
        }
        is(plan(0, "from:0;to:1"), 2, "not told");
        is(x.planIs(0, 5) * 100 + x.planIs(0, 6) * 10 + x.planIs(0, 7), 122, "merges, empty, tags");
    }

    @Says("since and a number of one to three digits (not told: 0), most and a digit 1 to 6 (not told: 6).")
    void sinceAndMost() {
        String[] numbers = {"0", "9", "00", "99", "000", "007", "999"};
        int[] due = {0, 9, 0, 99, 0, 7, 999};
        for (int i = 0; i < numbers.length; i++) {
            told("since:" + numbers[i], 3);
            is(x.planIs(0, 15), due[i], "since " + numbers[i]);
            is(x.planIs(0, 16), 6, "most is not told");
        }
        lines("since:0000", -2021);
        lines("since:1000", -2021);
        for (int digit = 0; digit < 10; digit++) {
            if (digit < 1 || digit > 6) {
                lines("most:" + digit, -3017);
            } else {
                told("most:" + digit, 3);
                is(x.planIs(0, 16), digit, "most");
                is(x.planIs(0, 15), 0, "since is not told");
            }
        }
        only(TO + "since:", DIGITS);
        only(TO + "since:1", DIGITS + ";");
        only(TO + "since:123", DIGITS + ";");
        only(TO + "most:", DIGITS);
        only(TO + "most:1", ";");
        noEnd(TO + "since:", TO + "most:");
    }

    // ---- FAULTS ----

    @Says("FAULTS, the first from the left: 1 what can't stand there")
    void firstFromTheLeft() {
        five();
        planFault("x;from:0", -1000);
        planFault("from:4;to:4", -3005);
        planFault("from:0;to:0;x", -3010);
        lines("keep:1;most:0", -1017);
        lines("most:0;keep:1", -3017);
        lines("graft:9>x", -9018);
        lines("graft:1>1;keep:1", -7020);
        lines("keep:a/b/c/d/e;merges:9", -5025);
        lines("merges:9;keep:a/b/c/d/e", -3019);
        lines("swap:1>1234567;swap:1>2", -2025);
        lines("swap:1>2;swap:1>1234567", -6021);
        lines("tags:1;tags:9", -6019);
    }

    @Says("(the end, too; a word that is none of these where it begins, first another one than from, then than to, later from and to);")
    void wordsThatAreNone() {
        five();
        for (String word : new String[] {"to", "keep", "drop", "move", "swap", "word", "graft", "sign", "skip", "merges", "empty",
            "tags", "since", "most", "fro", "froms", "fromm", "f", "x", "From", "", ";", ":", "0"}) {
            planFault(word + (word.isEmpty() ? ":" : ":0"), -1000);
            planFault(word.isEmpty() ? "0" : word, -1000);
        }
        for (String word : new String[] {"from", "keep", "drop", "move", "most", "t", "too", "tot", "To", "", ";", ":", "0"}) {
            planFault("from:0;" + word + ":1", -1007);
            planFault("from:0;" + word, -1007);
        }
        for (String word : new String[] {"from", "to", "kee", "keeps", "k", "drops", "mov", "swaps", "wor", "words", "graf",
            "grafts", "signs", "ski", "merge", "emty", "tag", "sinc", "mos", "mosts", "x", "Keep", "", ";", ":", "0",
            "abcdefghijklmnopqrstuvwxyz"}) {
            lines(word + ":1", -1012);
            lines(word, -1012);
        }
        for (String word : new String[] {"from", "to", "keep", "drop", "move", "swap", "word", "graft", "sign", "skip", "merges",
            "empty", "tags", "since", "most"}) {
            for (int i = 0; i < word.length(); i++) {
                String other = word.substring(0, i) + "x" + word.substring(i + 1);
                planFault(other + ":0;to:1", -1000);
                planFault("from:0;" + other + ":1", -1007);
                lines(other + ":1>1", -1012);
            }
        }
        planFault("from", -1004);
        planFault("from:0;to", -1009);
        lines("keep", -1016);
    }

    @Says("2 a fourth digit of a number, a seventh of a CONTENT, a fifth letter of a WORD, at it;")
    void oneTooMany() {
        five();
        lines("since:0000", -2021);
        lines("since:12345", -2021);
        lines("graft:0000", -2021);
        lines("graft:9999>0", -2021);
        lines("graft:1>0000", -2023);
        lines("graft:001>9999", -2025);
        lines("swap:0000000", -2023);
        lines("swap:1>0000000", -2025);
        lines("swap:123456>1234567", -2030);
        lines("word:aaaaa", -2021);
        lines("word:abcdefgh>a", -2021);
        lines("word:a>aaaaa", -2023);
        lines("word:abcd>abcde", -2026);
        told("since:999;swap:123456>123456;word:abcd>abcd;graft:004>003", 6);
    }

    @Says("3 another digit than may be, at it; to the HISTORY of from, at it;")
    void otherDigits() {
        planFault("from:4", -3005);
        planFault("from:9;to:1", -3005);
        planFault("from:0;to:4", -3010);
        planFault("from:0;to:9", -3010);
        for (int h = 0; h < 4; h++) {
            planFault("from:" + h + ";to:" + h, -3010);
            planFault("from:" + h + ";to:" + h + "?", -3010);
        }
        lines("merges:4", -3019);
        lines("merges:9?", -3019);
        lines("empty:3", -3018);
        lines("tags:3", -3017);
        lines("most:0", -3017);
        lines("most:7", -3017);
        lines("keep:a;most:9", -3024);
        told("merges:3;empty:2;tags:2;most:6", 6);
        told("merges:0;empty:0;tags:0;most:1", 6);
    }

    @Says("4 a fifth of a word of the first six,")
    void aFifth() {
        five();
        for (String word : FIRST_SIX) {
            StringBuilder four = new StringBuilder(TO);
            for (int i = 0; i < 4; i++) {
                four.append(i == 0 ? "" : ";").append(line(word, i));
            }
            is(plan(1, four.toString()), 6, four.toString());
            int due = -4001 - four.length();
            planFault(four + ";" + line(word, 4), due);
            planFault(four + ";" + line(word, 0), due);
            planFault(four + ";" + word + ":", due);
            planFault(four + ";" + word, due);
            planFault(four + ";" + word + "?", due);
            planFault(four + ";" + word + "x", -1001 - four.length());
            planFault(four + ";most:1;" + word, due - 7);
            planFault(four + ";" + word.substring(0, 3), -1001 - four.length());
        }
    }

    @Says("6 a second of merges, empty, tags, since, most, where the word begins (asked when it ends);")
    void aSecond() {
        String[] words = {"merges", "empty", "tags", "since", "most"};
        for (String word : words) {
            String one = word + ":1";
            int due = -6013 - one.length();
            lines(one + ";" + one, due);
            lines(one + ";" + word + ":", due);
            lines(one + ";" + word, due);
            lines(one + ";" + word + "?", due);
            lines(one + ";" + word + ":9", due);
            lines(one + ";" + word + "x:1", -1013 - one.length());
            lines(one + ";skip:1;" + one, due - 7);
            for (String other : words) {
                if (!other.equals(word)) {
                    lines(one + ";" + other + ":1;" + one, due - other.length() - 3);
                }
            }
            told(one, 3);
        }
        told("merges:1;empty:1;tags:1;since:1;most:1", 7);
        told("skip:1;skip:1;keep:a;keep:a;drop:a;drop:a", 8);
    }

    @Says("5 a fifth NAME, at it;")
    void fifthName() {
        lines("keep:a/b/c/d/e", -5025);
        lines("drop:a/b/c/d/e", -5025);
        lines("move:a/b/c/d/e>a", -5025);
        lines("move:a>a/b/c/d/e", -5027);
        lines("move:.>a/b/c/d/e", -5027);
        lines("keep:a/b/c/d/", -1025);
        lines("keep:a/b/c/d/E", -1025);
        lines("keep:a/b/c/d/e/f/g", -5025);
        told("keep:a/b/c/d;drop:a/b/c/d;move:a/b/c/d>d/c/b/a", 5);
    }

    @Says("6 a move, swap, word, graft, sign of what one of these tells already ahead of its >, where the word begins (asked when that ends);")
    void toldAlready() {
        five();
        String[] ones = {"move:a>b", "move:.>b", "move:a/b>.", "swap:1>2", "swap:01>2", "word:a>b", "word:abcd>b", "graft:1>0",
            "graft:1>.", "graft:0>.", "sign:1>2", "sign:0>0"};
        for (String one : ones) {
            String again = one.substring(0, one.indexOf('>'));
            int due = -6013 - one.length();
            lines(one + ";" + one, due);
            lines(one + ";" + again, due);
            lines(one + ";" + again + "?", due);
            lines(one + ";" + again + ">?", due);
            lines(one + ";skip:1;" + again, due - 7);
        }
        lines("graft:1>0;graft:001>0", -6022);
        lines("move:a>b;move:a/", -1028);
        lines("move:a>b;move:a/b", -1029);
        lines("swap:1>2;swap:1234567", -2032);
        lines("word:a>b;word:abcde", -2030);
        lines("graft:1>0;graft:1234", -2031);
        told("move:a>b;move:b>a;move:a/b>b;move:.>.", 6);
        told("swap:1>2;swap:2>1;swap:01>2;swap:11>2", 6);
        told("word:a>b;word:b>a;word:aa>b;word:ab>b", 6);
        told("graft:4>1;graft:3>1;graft:1>0;graft:2>1", 6);
        told("sign:1>2;sign:2>1;sign:0>1;sign:9>1", 6);
        told("keep:a;move:a>b;word:a>b;swap:1>2;sign:1>2;graft:1>0", 8);
    }

    @Says("9 there is no such COMMIT, at the first digit,")
    void noSuchCommit() {
        lines("graft:0>.", -9018);
        five();
        lines("graft:5>.", -9018);
        lines("graft:5", -9018);
        lines("graft:5?", -9018);
        lines("graft:005>0", -9018);
        lines("graft:999>999", -9018);
        lines("graft:4>5", -9020);
        lines("graft:4>999", -9020);
        lines("graft:004>005", -9022);
        lines("graft:4>5?", -9020);
        lines("graft:4>5;x", -9020);
        told("graft:4>.", 3);
        fill(120);
        lines("graft:120>.", -9018);
        lines("graft:119>120", -9022);
        told("graft:119>118", 3);
    }

    @Says("7 (behind 9) a graft's second one is not lower than its first, at its first digit (asked when the number ends).")
    void notLower() {
        five();
        lines("graft:0>0", -7020);
        lines("graft:1>1", -7020);
        lines("graft:1>2", -7020);
        lines("graft:1>4", -7020);
        lines("graft:1>5", -9020);
        lines("graft:1>04", -7020);
        lines("graft:01>001", -7021);
        lines("graft:1>1?", -7020);
        lines("graft:1>1;x", -7020);
        lines("graft:1>0001", -2023);
        lines("graft:0>1", -7020);
        told("graft:1>0", 3);
        told("graft:4>3", 3);
        told("graft:4>0", 3);
        told("graft:0>.", 3);
    }
}
