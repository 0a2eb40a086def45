/** Promises 12 and 13, and what the document says for all calls: each edge by itself. */
public final class ProofEdgesTest {
    private static final Due due = new Due();
    private static final int MIN = Integer.MIN_VALUE;
    private static final int MAX = Integer.MAX_VALUE;
    private static final String THREE_IN_TWO =
            "p cnf 6 9 1 2 0 3 4 0 5 6 0 -1 -3 0 -1 -5 0 -3 -5 0 -2 -4 0 -2 -6 0 -4 -6 0";

    public static void main(String[] args) {
        refutedNew();
        refutedByTheProofAlone();
        refutedOnlyByTheEmptyClause();
        refutedNotBySteps();
        refutedStays();
        refutedEndsWithTheProof();
        provesFalse();
        provesTrue();
        provesSmallContradictions();
        provesWide();
        provesBeforeSolve();
        provesWhateverTheProof();
        provesTheLastFormula();
        refusedTypeAndForced();
        refusedLines();
        asksChangeNothing();
        lastCall();
        manyLines();
        manyFormulas();
        manyAnswers();
        due.end();
    }

    private static void refutedNew() {
        due.sentence("promise 12", "Whether the proof has added the empty clause.");
        due.same("refuted", due.court.refuted(), false);
        due.reads("p cnf 1 2 1 0 -1 0", 2);
        due.same("refuted", due.court.refuted(), false);
        due.lines("3 0 1 2 0", 1);
        due.same("refuted", due.court.refuted(), true);
        due.same("refuted again", due.court.refuted(), true);
        due.holds(3);
        due.same("live", due.court.live(), 3);
    }

    private static void refutedByTheProofAlone() {
        due.sentence("promise 12", "Whether the proof has added");
        due.reads("p cnf 1 1 0", 1);
        due.same("refuted by the formula's own empty clause", due.court.refuted(), false);
        due.lines("2 1 0 1 0", 1);
        due.same("refuted", due.court.refuted(), false);
        due.same("solve", due.court.solve(), 0);
        due.same("proves", due.court.proves(), true);
        due.same("refuted by the search", due.court.refuted(), false);
        due.lines("3 0 1 0", 1);
        due.same("refuted", due.court.refuted(), true);
    }

    private static void refutedOnlyByTheEmptyClause() {
        due.sentence("promise 12", "the empty clause");
        due.reads("p cnf 2 2 1 0 -1 0", 2);
        due.lines("3 1 0 1 0", 1);
        due.lines("4 -1 0 2 0", 1);
        due.lines("5 2 0 1 2 0", 1);
        due.lines("6 2 -2 0 0", 1);
        due.lines("7 d 0", 1);
        due.lines("7 d 1 2 0", 1);
        due.same("refuted", due.court.refuted(), false);
        due.lines("7 0 3 4 0", 1);
        due.same("refuted", due.court.refuted(), true);
    }

    private static void refutedNotBySteps() {
        due.sentence("promise 12", "has added");
        due.reads("p cnf 2 2 1 0 -1 0", 2);
        due.lines("3 0 1 0", -1001);
        due.lines("3 0 0", -1000);
        due.lines("2 0 1 2 0", -2000);
        due.lines("3 0 1 2 0 0", -11);
        due.lines("3 0 1 2", -8);
        due.same("refuted", due.court.refuted(), false);
        due.types("3 0 1 2 0");
        due.same("refuted before the line is taken", due.court.refuted(), false);
        due.same("line", due.court.line(), 1);
        due.same("refuted", due.court.refuted(), true);
    }

    private static void refutedStays() {
        due.sentence("promise 12", "has added");
        due.reads("p cnf 2 2 1 0 -1 0", 2);
        due.lines("3 0 1 2 0", 1);
        due.lines("4 2 0 3 0", 1);
        due.same("refuted behind another clause", due.court.refuted(), true);
        due.lines("5 0 1 0", -1001);
        due.same("refuted behind a failure", due.court.refuted(), true);
        due.lines("5 d 3 0", 1);
        due.same("refuted, deleted since", due.court.refuted(), true);
        due.reads("p cnf 1 0 x", -11);
        due.same("refuted behind a fault", due.court.refuted(), true);
    }

    private static void refutedEndsWithTheProof() {
        due.sentence("promise 12", "and there is no proof");
        due.reads("p cnf 2 2 1 0 -1 0", 2);
        due.lines("3 0 1 2 0", 1);
        due.reads("p cnf 2 2 1 0 -1 0", 2);
        due.same("refuted", due.court.refuted(), false);
        due.lines("3 0 1 2 0", 1);
        due.same("refuted", due.court.refuted(), true);
    }

    private static void provesFalse() {
        due.sentence("promise 13", "false if something does");
        due.same("proves of a new object", due.court.proves(), false);
        String[] satisfied = {"p cnf 1 0", "p cnf 10 0", "p cnf 1 1 1 0", "p cnf 1 1 1 -1 0",
            "p cnf 2 3 1 2 0 1 -2 0 -1 2 0", "p cnf 3 3 1 0 2 0 3 0",
            THREE_IN_TWO.replace("6 9", "6 8").replace(" -4 -6 0", "")};
        for (String text : satisfied) {
            due.fresh();
            due.types(text);
            due.same("read", due.court.read() >= 0, true);
            due.same("proves " + text, due.court.proves(), false);
            due.same("solve", due.court.solve(), 1);
            due.same("proves behind solve", due.court.proves(), false);
        }
    }

    private static void provesTrue() {
        due.sentence("promise 13", "where nothing satisfies the formula, has learned its way to the empty"
                + " clause");
        String[] contradictions = {"p cnf 1 1 0", "p cnf 10 1 0", "p cnf 1 2 1 0 -1 0",
            "p cnf 2 2 1 -1 0 0", "p cnf 10 2 10 0 -10 0", "p cnf 2 4 1 2 0 1 -2 0 -1 2 0 -1 -2 0",
            "p cnf 2 4 -1 -2 0 -1 2 0 1 -2 0 1 2 0",
            "p cnf 3 8 1 2 3 0 1 2 -3 0 1 -2 3 0 1 -2 -3 0 -1 2 3 0 -1 2 -3 0 -1 -2 3 0 -1 -2 -3 0",
            THREE_IN_TWO};
        for (String text : contradictions) {
            due.fresh();
            due.types(text);
            due.same("read", due.court.read() >= 0, true);
            due.same("proves " + text, due.court.proves(), true);
            due.same("solve", due.court.solve(), 0);
            due.same("proves behind solve", due.court.proves(), true);
        }
    }

    /** All sets of the clauses over two variables that are neither empty nor always true. */
    private static void provesSmallContradictions() {
        due.sentence("promise 13", "Whether the search ... by steps that hold, each by hints alone");
        String[] clauses = {" 1 2 0", " 1 -2 0", " -1 2 0", " -1 -2 0", " 1 0", " -1 0", " 2 0", " -2 0"};
        int[] satisfying = {0b1110, 0b1101, 0b1011, 0b0111, 0b1100, 0b0011, 0b1010, 0b0101};
        for (int set = 0; set < 256; set++) {
            StringBuilder text = new StringBuilder();
            int left = 0b1111;
            for (int i = 0; i < 8; i++) {
                if ((set >> i & 1) == 1) {
                    text.append(clauses[i]);
                    left &= satisfying[i];
                }
            }
            due.fresh();
            due.reads("p cnf 2 " + Integer.bitCount(set) + text, Integer.bitCount(set));
            due.same("proves" + text, due.court.proves(), left == 0);
            due.same("solve" + text, due.court.solve(), left == 0 ? 0 : 1);
            due.same("count" + text, due.court.count(), Integer.bitCount(left));
        }
    }

    /** The search decides many variables here, and learns clauses that have many literals. */
    private static void provesWide() {
        due.sentence("promise 13", "by steps that hold");
        StringBuilder wide = new StringBuilder("p cnf 9 15 1 2 3 8 0 4 5 6 7 -8 0 1 2 3 6 -7 0");
        for (int v = 1; v <= 6; v++) {
            wide.append(" -" + v + " 9 0 -" + v + " -9 0");
        }
        due.reads(wide.toString(), 15);
        due.same("proves", due.court.proves(), true);
        due.same("solve", due.court.solve(), 0);
        due.fresh();
        due.reads("p cnf 10 12 1 2 3 4 5 0 -1 6 0 -2 7 0 -3 8 0 -4 9 0 -5 10 0 -6 -1 0 -7 -2 0 -8 -3 0"
                + " -9 -4 0 -10 -5 0 1 -1 0", 12);
        due.same("proves", due.court.proves(), true);
        due.same("count", due.court.count(), 0);
    }

    private static void provesBeforeSolve() {
        due.sentence("promise 13", "Whether the search, where nothing satisfies the formula, has learned");
        due.reads(THREE_IN_TWO, 9);
        due.same("proves", due.court.proves(), true);
        due.fresh();
        due.reads(THREE_IN_TWO, 9);
        due.same("value 1", due.court.value(1), -1);
        due.same("proves behind value", due.court.proves(), true);
        due.same("proves again", due.court.proves(), true);
        due.same("live: the search adds nothing", due.court.live(), 9);
        due.holds(10);
        due.lines("10 2 -3 0 1 4 0", 1);
    }

    private static void provesWhateverTheProof() {
        due.sentence("promise 13", "where nothing satisfies the formula");
        due.reads("p cnf 2 2 1 0 -1 0", 2);
        due.lines("3 d 1 2 0", 1);
        due.same("proves", due.court.proves(), true);
        due.reads("p cnf 2 1 1 0", 1);
        due.lines("2 d 1 0", 1);
        due.lines("2 -1 0 0", 1);
        due.same("proves", due.court.proves(), false);
        due.reads("p cnf 2 1 0", 1);
        due.lines("2 0 1 0", 1);
        due.lines("3 d 1 2 0", 1);
        due.same("proves", due.court.proves(), true);
    }

    private static void provesTheLastFormula() {
        due.sentence("promise 13", "the formula");
        due.reads("p cnf 1 1 0", 1);
        due.same("proves", due.court.proves(), true);
        due.reads("p cnf 1 1 x", -11);
        due.same("proves behind a fault", due.court.proves(), true);
        due.reads("p cnf 1 1 1 0", 1);
        due.same("proves", due.court.proves(), false);
        due.reads("p cnf 2 0 0", -11);
        due.same("proves behind a fault", due.court.proves(), false);
        due.reads("p cnf 1 2 1 0 -1 0", 2);
        due.same("proves", due.court.proves(), true);
    }

    private static void refusedTypeAndForced() {
        due.sentence("for all calls", "A call that is refused changes nothing.");
        due.reads("p cnf 3 3 1 0 -1 2 0 3 1 0", 3);
        due.lines("4 2 0 1 2 0", 1);
        due.lines("5 d 3 0", 1);
        String before = due.seen();
        due.types("5 2 ");
        for (int n : new int[] {MIN, -1, 0, 5, MAX}) {
            due.same("type " + n, due.court.type(Due.word("-3 0"), n), false);
        }
        for (int code : new int[] {0, 9, 11, 31, 127, 128, 255}) {
            due.same("type code " + code, due.court.type(Due.word("3 ") << 8 | code, 3), false);
        }
        for (int a : new int[] {MIN, -4, 4, MAX}) {
            due.same("forced " + a + " 1", due.court.forced(a, 1), -2);
            due.same("forced 1 " + a, due.court.forced(1, a), -2);
        }
        due.same("forced 2 -2", due.court.forced(2, -2), -2);
        due.expect("all is as before", due.seen().equals(before));
        due.types("0 4 0");
        due.same("line of what was typed before and behind", due.court.line(), 1);
        due.holds(5, 2);
    }

    private static void refusedLines() {
        due.sentence("for all calls", "A call that is refused changes nothing.");
        due.reads("p cnf 3 3 1 0 -1 2 0 3 1 0", 3);
        due.lines("4 2 0 1 2 0", 1);
        due.lines("5 d 3 0", 1);
        String before = due.seen();
        String[] refused = {"4 1 0 1 0", "1 0 1 0", "3 3 -3 0 0", "9 d 3 0", "9 d 1 3 0", "9 d 1 2 4 1 0",
            "9 d 4 4 0", "9 d 5 0"};
        for (String text : refused) {
            due.lines(text, -2000);
        }
        due.expect("all is as before", due.seen().equals(before));
        due.lines("5 2 0 4 0", 1);
        due.lines("9 d 1 2 4 5 0", 1);
        due.same("live", due.court.live(), 0);
    }

    private static void asksChangeNothing() {
        due.sentence("for all calls", "answers and state changes");
        due.reads("p cnf 3 4 1 2 0 -1 2 0 3 1 0 -2 3 0", 4);
        due.lines("5 2 0 1 2 0", 1);
        due.types("6 3 0 5");
        String before = due.seen();
        due.expect("the same again", due.seen().equals(before));
        due.types(" 4 0");
        due.same("line", due.court.line(), 1);
        due.expect("the line has added a clause", !due.seen().equals(before));
        due.holds(6, 3);
    }

    private static void lastCall() {
        due.sentence("for all calls", "An object is used for at most 512 calls after it has been made");
        for (int kind = 0; kind <= 12; kind++) {
            due.fresh();
            due.reads("p cnf 2 2 1 0 -1 2 0", 2);
            due.lines("3 2 0 1 2 0", 1);
            due.types(kind == 10 ? "p cnf 1 0" : "4 0 1 2 0");
            while (due.callsLeft() > 1) {
                due.same("literal 3 0", due.court.literal(3, 0), 2);
            }
            askLast(kind);
            due.expect("no call is left", due.callsLeft() == 0);
        }
    }

    private static void askLast(int kind) {
        switch (kind) {
            case 0 -> due.same("type", due.court.type(' ', 1), true);
            case 1 -> due.same("type 0", due.court.type(' ', 0), false);
            case 2 -> due.same("variables", due.court.variables(), 2);
            case 3 -> due.same("live", due.court.live(), 3);
            case 4 -> due.same("literal", due.court.literal(2, 1), 2);
            case 5 -> due.same("solve", due.court.solve(), 1);
            case 6 -> due.same("value", due.court.value(2), 1);
            case 7 -> due.same("count", due.court.count(), 1);
            case 8 -> due.same("forced", due.court.forced(-2, 0), -1);
            case 9 -> due.same("line", due.court.line(), -1002);
            case 10 -> due.same("read", due.court.read(), 0);
            case 11 -> due.same("refuted", due.court.refuted(), false);
            default -> due.same("proves", due.court.proves(), false);
        }
    }

    private static void manyLines() {
        due.sentence("for all calls", "at most 512 calls");
        for (int number = 1; due.callsLeft() >= 8; number++) {
            due.reads("", -1);
            due.lines(number + " 0 0", -1000);
            due.lines("1 d 0", 1);
        }
        due.fresh();
        due.reads("p cnf 1 1 1 0", 1);
        int number = 2;
        while (due.callsLeft() >= 8) {
            due.lines(number + " 1 0 1 0", 1);
            due.lines(number + " d " + number + " 0", 1);
            number++;
        }
        due.same("live", due.court.live(), 1);
    }

    private static void manyFormulas() {
        due.sentence("for all calls", "at most 512 calls");
        String full = "p cnf 10 24" + " 1 -2 0".repeat(20) + " 0".repeat(4);
        while (due.callsLeft() >= 50) {
            due.reads(full, 24);
            due.same("live", due.court.live(), 24);
            due.same("solve", due.court.solve(), 0);
            due.reads("p cnf 1 0", 0);
            due.same("count", due.court.count(), 2);
        }
    }

    private static void manyAnswers() {
        due.sentence("for all calls", "at most 512 calls");
        due.reads(THREE_IN_TWO, 9);
        while (due.callsLeft() >= 5) {
            due.same("solve", due.court.solve(), 0);
            due.same("count", due.court.count(), 0);
            due.same("proves", due.court.proves(), true);
            due.same("forced", due.court.forced(1, 0), -1);
            due.same("value", due.court.value(1), -1);
        }
    }
}
