/** Promises 1 to 3: each sentence that names an edge, with objects of its own. */
public final class TextEdgesTest {
    private static final Due due = new Due();
    private static final int MIN = Integer.MIN_VALUE;
    private static final int MAX = Integer.MAX_VALUE;
    private static final String SMALL = "p cnf 2 2 1 -2 0 2 0";

    public static void main(String[] args) {
        newObjectIsTyped();
        newObjectIsAsked();
        newObjectIsTold();
        newObjectsAreApart();
        typeSizes();
        typeOrder();
        typeHigherBytes();
        typeCharacters();
        typeRoom();
        typeRefusedChangesNothing();
        readVariables();
        readClauses();
        readLiterals();
        readDigits();
        readNoNumbers();
        readTwice();
        readTooMany();
        readBlanks();
        readRemarks();
        readRemarksEnd();
        readNoRemarks();
        readWrongWords();
        readMissing();
        readFirstFault();
        readFull();
        readNothingTyped();
        readNoProof();
        readFaultKeeps();
        due.end();
    }

    private static void newObjectIsTyped() {
        due.sentence("promise 1", "nothing is typed");
        due.same("type", due.fresh().type(' ', 1), true);
        due.same("type 4", due.fresh().type(0x20202020, 4), true);
        due.same("type 0", due.fresh().type(' ', 0), false);
        due.same("type 5", due.fresh().type(0x20202020, 5), false);
        due.same("type code 0", due.fresh().type(0, 1), false);
        due.same("read", due.fresh().read(), -1);
        due.same("line", due.fresh().line(), -1);
        due.fresh();
        due.reads(" ".repeat(160), -161);
        due.fresh();
        due.lines(" ".repeat(160), -161);
    }

    private static void newObjectIsAsked() {
        due.sentence("promise 1", "A formula without variables and clauses");
        due.same("variables", due.fresh().variables(), 0);
        due.same("live", due.fresh().live(), 0);
        due.same("solve", due.fresh().solve(), 1);
        due.same("count", due.fresh().count(), 1);
        due.same("refuted", due.fresh().refuted(), false);
        due.same("proves", due.fresh().proves(), false);
        due.same("forced 0 0", due.fresh().forced(0, 0), 0);
        for (int a : new int[] {MIN, -11, -10, -1, 1, 10, 11, MAX}) {
            due.same("value " + a, due.fresh().value(a), -1);
            due.same("literal " + a + " 0", due.fresh().literal(a, 0), 0);
            due.same("literal 1 " + a, due.fresh().literal(1, a), 0);
            due.same("forced " + a + " 0", due.fresh().forced(a, 0), -2);
            due.same("forced 0 " + a, due.fresh().forced(0, a), -2);
            due.same("forced " + a + " twice", due.fresh().forced(a, a), -2);
            due.same("forced " + a + " and its opposite", due.fresh().forced(a, -a), -2);
        }
        due.same("value 0", due.fresh().value(0), -1);
        due.same("literal 0 0", due.fresh().literal(0, 0), 0);
        due.same("literal 1 0", due.fresh().literal(1, 0), 0);
        due.same("literal 999 5", due.fresh().literal(999, 5), 0);
    }

    private static void newObjectIsTold() {
        due.sentence("promise 1", "A formula without variables and clauses");
        String[] told = {"1 0 0", "1 0 1 0", "1 0 -1 0", "1 1 0 0", "1 -1 0 0", "1 d 0", "999 d 0",
            "1 d 1 0", "1 d 999 0"};
        int[] want = {-1000, -1000, -1000, -3, -3, 1, 1, -2000, -2000};
        for (int i = 0; i < told.length; i++) {
            due.fresh();
            due.lines(told[i], want[i]);
            due.same("live", due.court.live(), 0);
            due.same("refuted", due.court.refuted(), false);
            due.same("variables", due.court.variables(), 0);
        }
    }

    private static void newObjectsAreApart() {
        due.sentence("promise 1", "A formula without variables and clauses; nothing is typed.");
        due.reads("p cnf 3 2 1 0 -1 0", 2);
        due.lines("3 0 1 2 0", 1);
        due.types("p cnf");
        ProofCourt first = due.court;
        due.fresh();
        due.same("variables", due.court.variables(), 0);
        due.same("live", due.court.live(), 0);
        due.same("literal 1 0", due.court.literal(1, 0), 0);
        due.same("solve", due.court.solve(), 1);
        due.same("refuted", due.court.refuted(), false);
        due.same("read", due.court.read(), -1);
        due.reads("p cnf 1 0", 0);
        due.court = first;
        due.same("variables of the first", due.court.variables(), 3);
        due.same("live of the first", due.court.live(), 3);
        due.same("refuted of the first", due.court.refuted(), true);
        due.same("read of the first", due.court.read(), -6);
    }

    private static void typeSizes() {
        due.sentence("promise 2", "false, refused, if n is not 1 .. 4");
        int[] wrong = {MIN, MIN + 1, MIN + 4, -256, -4, -1, 0, 5, 6, 8, 32, 33, 36, 255, 256, 257, 260,
            65537, 1 << 24 | 1, MAX};
        for (int n : wrong) {
            due.same("type " + n, due.court.type(0x20202020, n), false);
        }
        due.same("read", due.court.read(), -1);
        for (int n = 1; n <= 4; n++) {
            due.same("type " + n, due.fresh().type(0x20202020, n), true);
            due.same("read " + n, due.court.read(), -1 - n);
        }
    }

    private static void typeOrder() {
        due.sentence("promise 2", "the n lowest bytes of word, the highest of them first");
        for (int n = 1; n <= 4; n++) {
            for (int place = 0; place < n; place++) {
                String word = " ".repeat(place) + "x" + " ".repeat(n - 1 - place);
                due.same("type " + word, due.fresh().type(Due.word(word), n), true);
                due.same("read", due.court.read(), -1 - place);
                due.types("     ");
                due.same("type behind five", due.court.type(Due.word(word), n), true);
                due.same("read", due.court.read(), -6 - place);
            }
        }
    }

    private static void typeHigherBytes() {
        due.sentence("promise 2", "the n lowest bytes");
        for (int higher : new int[] {0, 9, 'x', 127, 128, 255}) {
            due.fresh();
            due.same("type 1", due.court.type(higher << 24 | higher << 16 | higher << 8 | 'p', 1), true);
            due.same("type 2", due.court.type(higher << 24 | higher << 16 | Due.word(" c"), 2), true);
            due.same("type 3", due.court.type(higher << 24 | Due.word("nf "), 3), true);
            due.same("type 3", due.court.type(higher << 24 | Due.word("7 0"), 3), true);
            due.same("read", due.court.read(), 0);
            due.same("variables", due.court.variables(), 7);
        }
    }

    /** All that is typed stands in a line with c, so that read tells its length. */
    private static void typeCharacters() {
        due.sentence("promise 2", "one of them is not 10 or 32 .. 126");
        for (int code = 0; code < 256; code++) {
            boolean fits = code == 10 || code >= 32 && code <= 126;
            due.fresh();
            due.types("c ");
            int length = 2;
            for (int n = 1; n <= 4; n++) {
                for (int place = 0; place < n; place++) {
                    int word = 0x20202020 & ~(255 << 8 * place) | code << 8 * place;
                    due.same("type " + Integer.toHexString(word) + " " + n,
                            due.court.type(word, n), fits);
                    length += fits ? n : 0;
                }
            }
            due.types("\n");
            due.same("read behind code " + code, due.court.read(), -2 - length);
        }
    }

    private static void typeRoom() {
        due.sentence("promise 2", "more than 160 would be there");
        for (int there = 156; there <= 160; there++) {
            for (int n = 1; n <= 4; n++) {
                boolean fits = there + n <= 160;
                due.fresh();
                due.types(" ".repeat(there));
                due.same("type " + n + " behind " + there, due.court.type(0x20202020, n), fits);
                due.same("read", due.court.read(), -1 - there - (fits ? n : 0));
                due.types(" ".repeat(there));
                due.same("type " + n + " behind " + there, due.court.type(0x20202020, n), fits);
                due.same("line", due.court.line(), -1 - there - (fits ? n : 0));
            }
        }
    }

    private static void typeRefusedChangesNothing() {
        due.sentence("promise 2", "refused");
        due.reads("p cnf 1 1 -1 0", 1);
        String before = due.seen();
        due.types("p cnf 2 1 1 ");
        due.same("type 0", due.court.type('x', 0), false);
        due.same("type 5", due.court.type(Due.word("xxxx"), 5), false);
        due.same("type a wrong last byte", due.court.type(Due.word("xxx") << 8, 4), false);
        due.same("type a wrong first byte", due.court.type(127 << 16 | Due.word("xx"), 3), false);
        due.same("type a wrong byte between", due.court.type('x' << 16 | 31 << 8 | 'x', 3), false);
        due.expect("the formula stays", due.seen().equals(before));
        due.types("2 0");
        due.same("read", due.court.read(), 1);
        due.holds(1, 1, 2);
        due.types("p cnf 1 1 1 0" + " ".repeat(146));
        due.same("type 4 behind 159", due.court.type(Due.word("xxxx"), 4), false);
        due.same("type 2 behind 159", due.court.type(Due.word(" x"), 2), false);
        due.same("type 1 behind 159", due.court.type(' ', 1), true);
        due.same("type 1 behind 160", due.court.type('x', 1), false);
        due.same("type code 0 behind 160", due.court.type(0, 1), false);
        due.same("type 0 behind 160", due.court.type('x', 0), false);
        due.same("read", due.court.read(), 1);
        due.holds(1, 1);
    }

    private static void readVariables() {
        due.sentence("promise 3", "V (1 .. 10)");
        for (int v = 1; v <= 10; v++) {
            due.reads("p cnf " + v + " 0", 0);
            due.same("variables", due.court.variables(), v);
        }
        for (String v : new String[] {"0", "11", "-1", "-10", "12", "20", "100", "9999", "-9999", "000"}) {
            due.reads("p cnf " + v + " 0", -7);
        }
        due.same("variables", due.court.variables(), 10);
    }

    private static void readClauses() {
        due.sentence("promise 3", "C (0 .. 24)");
        for (int c = 0; c <= 24; c++) {
            due.fresh();
            due.reads("p cnf 1 " + c + " 1 0".repeat(c), c);
            due.same("live", due.court.live(), c);
            due.same("literal of the last", due.court.literal(c, 0), c == 0 ? 0 : 1);
            due.same("literal behind the last", due.court.literal(c + 1, 0), 0);
        }
        due.fresh();
        due.reads("p cnf 1 25" + " 1 0".repeat(25), -9);
        for (String c : new String[] {"-1", "-24", "26", "30", "99", "100", "240", "9999"}) {
            due.reads("p cnf 1 " + c + " 1 0", -9);
        }
    }

    private static void readLiterals() {
        due.sentence("promise 3", "some literals (-V .. V, not 0), and 0");
        for (int v = 1; v <= 10; v++) {
            String head = "p cnf " + v + " 1 ";
            due.fresh();
            due.reads(head + v + " " + -v + " 0", 1);
            due.holds(1, v, -v);
            due.reads(head + (v + 1) + " 0", -1 - head.length());
            due.reads(head + -(v + 1) + " 0", -1 - head.length());
            due.reads(head + "1 " + (v + 1) + " 0", -3 - head.length());
            due.reads(head + "9999 0", -1 - head.length());
            due.reads(head + "-9999 0", -1 - head.length());
            due.reads(head + "0", 1);
            due.holds(1);
        }
    }

    private static void readDigits() {
        due.sentence("promise 3", "a NUMBER is a word of 1 .. 4 digits, maybe with a - before them");
        due.reads("p cnf 0003 0001 3 03 -03 002 -002 0001 -0001 0000", 1);
        due.same("variables", due.court.variables(), 3);
        due.holds(1, 3, -3, 2, -2, 1, -1);
        due.reads("p cnf 00003 1 1 0", -7);
        due.reads("p cnf 3 00001 1 0", -9);
        due.reads("p cnf 3 1 00001 0", -11);
        due.reads("p cnf 3 1 -00001 0", -11);
        due.reads("p cnf 3 1 1 00000", -13);
        due.reads("p cnf 3 1 1 0000000001", -13);
        due.reads("p cnf 3 1 4294967297 0", -11);
        due.reads("p cnf 3 1 65537 0", -11);
    }

    private static void readNoNumbers() {
        due.sentence("promise 3", "a NUMBER is a word of 1 .. 4 digits, maybe with a - before them");
        String[] wrong = {"-", "--1", "+1", "1-", "-1-", "1-1", "1x", "x1", "1.", "1,", "/", ":", "1/",
            "1:", "one", "'1'"};
        for (String word : wrong) {
            due.fresh();
            due.reads("p cnf " + word + " 1 1 0", -7);
            due.reads("p cnf 1 " + word + " 1 0", -9);
            due.reads("p cnf 1 1 " + word + " 0", -11);
            due.reads("p cnf 1 1 1 " + word, -13);
        }
    }

    private static void readTwice() {
        due.sentence("promise 3", "A literal that stands twice in a clause counts once");
        due.reads("p cnf 3 2 2 2 0 -1 3 -1 3 -1 1 0", 2);
        due.holds(1, 2);
        due.holds(2, -1, 3, 1);
        due.reads("p cnf 9 1 9 8 7 6 5 4 4 5 6 7 8 9 9 4 0", 1);
        due.holds(1, 9, 8, 7, 6, 5, 4);
        due.reads("p cnf 1 1 1" + " 1".repeat(73) + " 0", 1);
        due.holds(1, 1);
        due.reads("p cnf 1 2 1 0 1 0", 2);
        due.same("live: a clause may stand twice", due.court.live(), 2);
    }

    private static void readTooMany() {
        due.sentence("promise 3", "more than 6 are too many ... (a literal too many: at that one)");
        due.reads("p cnf 10 2 1 2 3 4 5 6 0 -1 -2 -3 -4 -5 10 0", 2);
        due.holds(1, 1, 2, 3, 4, 5, 6);
        due.holds(2, -1, -2, -3, -4, -5, 10);
        due.reads("p cnf 10 1 1 2 3 4 5 6 7 0", -24);
        due.reads("p cnf 10 1 1 2 3 4 5 6 7 8 0", -24);
        due.reads("p cnf 10 1 1 2 3 4 5 6 6 1 7 0", -28);
        due.reads("p cnf 10 1 1 2 3 4 5 6 -6 0", -24);
        due.reads("p cnf 3 1 1 -1 2 -2 3 -3 0", 1);
        due.reads("p cnf 3 1 1 -1 2 -2 3 -3 -3 3 1 -1 0", 1);
        due.holds(1, 1, -1, 2, -2, 3, -3);
        due.reads("p cnf 4 1 1 -1 2 -2 3 -3 4", -26);
        due.reads("p cnf 10 1 1 2 3 4 5 6 x 7 0", -24);
        due.reads("p cnf 10 2 1 2 3 4 5 6 0 1 2 3 4 5 6 -10 0", -38);
    }

    private static void readBlanks() {
        due.sentence("promise 3", "Between words are spaces and line ends.");
        for (String blank : new String[] {" ", "\n", "   ", "\n\n", " \n ", "\n \n"}) {
            String text = SMALL.replace(" ", blank);
            due.reads(text, 2);
            due.reads(blank + text + blank, 2);
            due.holds(1, 1, -2);
            due.holds(2, 2);
        }
        due.reads("pcnf 1 0", -1);
        due.reads("p cnf1 0", -3);
        due.reads("p cnf 1 10", -11);
        due.reads("p cnf 1 1 1-1 0", -11);
        due.reads("p cnf 1 1 10", -11);
    }

    private static void readRemarks() {
        due.sentence("promise 3", "A line with c may stand before any word that begins a line.");
        String[] words = SMALL.split(" ");
        for (String remark : new String[] {"c", "c x", " c 1 0", "  c  ", "c c", "c p cnf 9 0", "c\nc"}) {
            for (int gap = 0; gap < words.length; gap++) {
                due.fresh();
                String before = gap == 0 ? "" : joined(words, 0, gap) + "\n";
                due.reads(before + remark + "\n" + joined(words, gap, words.length), 2);
                due.same("variables", due.court.variables(), 2);
                due.holds(1, 1, -2);
                due.holds(2, 2);
            }
        }
    }

    private static void readRemarksEnd() {
        due.sentence("promise 3", "lines whose first word is c are left out, up to their line end");
        due.reads("c\nx", -3);
        due.reads("c x\n\n y", -7);
        due.reads("c p cnf 1 0", -12);
        due.reads("c", -2);
        due.reads("c\n", -3);
        due.reads("c\np cnf 1 0 0", -13);
        due.reads("c\nc\nc\np cnf 1 1 2 0", -17);
        due.reads("p cnf 1 1 1\nc 0", -16);
        due.reads("p cnf 1 1 1\nc 0\n", -17);
        due.reads("p cnf 1 0\nc x\n", 0);
        due.reads("p cnf 1 0\nc x", 0);
        due.reads("p cnf 1 0\nc x\nx", -15);
        due.reads("c" + " x".repeat(74) + "\np cnf 1 0\n", 0);
    }

    private static void readNoRemarks() {
        due.sentence("promise 3", "lines whose first word is c");
        for (String word : new String[] {"cc", "c1", "C", "-c", "c:", "cp", "ca", "1c"}) {
            due.fresh();
            due.reads(word + "\n" + SMALL, -1);
            due.reads(word + " x\n" + SMALL, -1);
            due.reads("p cnf 2 2 1\n" + word + "\n-2 0 2 0", -13);
        }
        String[] words = SMALL.split(" ");
        for (int gap = 1; gap <= words.length; gap++) {
            String before = joined(words, 0, gap) + " ";
            String behind = joined(words, gap, words.length);
            due.fresh();
            due.reads(before + "c\n" + behind, -1 - before.length());
            due.reads(before + "c x\n" + behind, -1 - before.length());
            due.reads("c\n" + before + " c\n" + behind, -4 - before.length());
        }
    }

    private static void readWrongWords() {
        due.sentence("promise 3", "at the first character of the first word that may not stand there");
        String[] wrong = {"x", "d", "P", "CNF", "cn", "cnff", "pp", "99", "-99", "9999", "00001", "-"};
        String[] words = SMALL.split(" ");
        for (String word : wrong) {
            due.fresh();
            for (int i = 0; i < words.length; i++) {
                String before = i == 0 ? "" : joined(words, 0, i) + " ";
                String behind = " " + joined(words, i + 1, words.length);
                due.reads(before + word + behind, -1 - before.length());
            }
            due.reads(SMALL + "  " + word, -3 - SMALL.length());
        }
        due.fresh();
        due.reads(SMALL + " 0", -2 - SMALL.length());
        due.reads(SMALL + " 1 0", -2 - SMALL.length());
        due.reads(SMALL + "\np", -2 - SMALL.length());
        due.reads("cnf p 2 0", -1);
        due.reads("p p cnf 2 0", -3);
        due.reads("p cnf cnf 2 0", -7);
        due.reads("p cnf 1 0 0", -11);
    }

    private static void readMissing() {
        due.sentence("promise 3", "or, if something is missing, at its length");
        String[] words = SMALL.split(" ");
        for (String blank : new String[] {"", " ", "\n", " \n  "}) {
            due.fresh();
            for (int size = 0; size < words.length; size++) {
                String text = joined(words, 0, size) + blank;
                due.reads(text, -1 - text.length());
            }
            due.reads(SMALL + blank, 2);
        }
        due.fresh();
        due.reads("p cnf 1 24" + " 0".repeat(23), -57);
        due.reads("p cnf 1 3 1 -1 0 0", -19);
    }

    private static void readFirstFault() {
        due.sentence("promise 3", "the first word that may not stand there");
        due.reads("x y", -1);
        due.reads("p x 0 25 9", -3);
        due.reads("p cnf 0 25 9", -7);
        due.reads("p cnf 1 25 9", -9);
        due.reads("p cnf 1 1 9 x", -11);
        due.reads("p cnf 1 1 1 x 9", -13);
        due.reads("p cnf 1 1 1 0 9 x", -15);
        due.reads("p cnf 1 9 1 0 2 0", -15);
    }

    private static void readFull() {
        due.sentence("promise 3", "at its length");
        String full = "p cnf 10 24" + " -10 7 0".repeat(6) + " -10 0".repeat(12) + " 7 0".repeat(6);
        due.reads(full + " ".repeat(160 - full.length()), 24);
        due.holds(24, 7);
        due.fresh();
        due.reads("p cnf 1 1" + " ".repeat(150) + "0", 1);
        due.reads("p cnf 1 1" + " ".repeat(150) + "1", -161);
        due.reads("p cnf 1 1" + " ".repeat(150) + "2", -160);
        due.reads("p cnf 1 0" + " ".repeat(150) + "0", -160);
        due.reads("x".repeat(160), -1);
        due.reads("p " + "x".repeat(158), -3);
    }

    private static void readNothingTyped() {
        due.sentence("promise 3", "nothing is typed then");
        due.reads("p cnf 1 0", 0);
        due.same("read", due.court.read(), -1);
        due.reads("p cnf 1 1 1 0", 1);
        due.same("line", due.court.line(), -1);
        due.reads("  x", -3);
        due.same("read behind a fault", due.court.read(), -1);
        due.reads("p cnf 1 1 1", -12);
        due.same("line behind a fault", due.court.line(), -1);
        due.reads(" ".repeat(160), -161);
        due.reads("p cnf 2 0" + " ".repeat(151), 0);
    }

    private static void readNoProof() {
        due.sentence("promise 3", "in place of the one before; ... and there is no proof");
        due.reads("p cnf 3 4 1 0 -1 0 2 3 0 3 0", 4);
        due.lines("9 0 1 2 0", 1);
        due.lines("1 d 1 2 0", 1);
        due.same("solve", due.court.solve(), 0);
        due.same("count", due.court.count(), 0);
        due.same("proves", due.court.proves(), true);
        due.reads("p cnf 2 2 2 1 0 -1 2 0", 2);
        due.same("variables", due.court.variables(), 2);
        due.same("live", due.court.live(), 2);
        due.holds(1, 2, 1);
        due.holds(2, -1, 2);
        due.holds(3);
        due.holds(4);
        due.holds(9);
        due.same("solve", due.court.solve(), 1);
        due.values("01");
        due.same("count", due.court.count(), 2);
        due.same("forced 0 0", due.court.forced(0, 0), 0);
        due.same("forced 3 0", due.court.forced(3, 0), -2);
        due.same("refuted", due.court.refuted(), false);
        due.same("proves", due.court.proves(), false);
        due.lines("3 3 0 0", -3);
        due.lines("3 2 0 1 2 0", 1);
        due.reads("p cnf 1 0", 0);
        due.same("live", due.court.live(), 0);
        due.lines("1 1 0 0", 1);
    }

    private static void readFaultKeeps() {
        due.sentence("promise 3", "the formula before stays, with its proof");
        String[] faulty = {"", "x", "p cnf 1", "p cnf 1 0 x", "p cnf 5 3 1 0 2 0 3 0 4",
            "p cnf 9 2 9 0 8", "p cnf 10 1 1 2 3 4 5 6 7 0", "c"};
        int[] want = {-1, -1, -8, -11, -23, -16, -24, -2};
        for (int i = 0; i < faulty.length; i++) {
            due.fresh();
            due.reads("p cnf 3 4 1 0 -1 0 2 3 0 3 0", 4);
            due.lines("8 0 1 2 0", 1);
            due.lines("1 d 3 0", 1);
            String before = due.seen();
            due.reads(faulty[i], want[i]);
            due.expect("behind " + faulty[i] + " all is as before", due.seen().equals(before));
            due.lines("8 3 0 4 0", -2000);
            due.lines("9 3 0 3 0", -1000);
            due.lines("9 3 0 4 0", 1);
            due.lines("9 4 0 4 0", -3);
        }
        due.fresh();
        due.reads("p cnf 1 0 x", -11);
        due.same("variables of a new object", due.court.variables(), 0);
    }

    private static String joined(String[] words, int from, int to) {
        StringBuilder text = new StringBuilder();
        for (int i = from; i < to; i++) {
            text.append(i == from ? "" : " ").append(words[i]);
        }
        return text.toString();
    }
}
