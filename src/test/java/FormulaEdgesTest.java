/** Promises 4 to 10: each sentence that names an edge, with objects of its own. */
public final class FormulaEdgesTest {
    private static final Due due = new Due();
    private static final int MIN = Integer.MIN_VALUE;
    private static final int MAX = Integer.MAX_VALUE;
    private static final String CHAIN =
            "p cnf 10 9 -9 10 0 -8 9 0 -7 8 0 -6 7 0 -5 6 0 -4 5 0 -3 4 0 -2 3 0 -1 2 0";

    public static void main(String[] args) {
        variables();
        live();
        liveUnchanged();
        literalPlaces();
        literalAsTold();
        literalNumbers();
        literalNotLive();
        noClauses();
        emptyClause();
        alwaysTrueClause();
        allSetsOfAssignments();
        oneAssignment();
        countHalves();
        valueLeast();
        valueNoVariable();
        valueNone();
        formulaNotProof();
        forcedNone();
        forcedThemselves();
        forcedChain();
        forcedAll();
        forcedOnlyTheLast();
        forcedFalse();
        forcedRefused();
        forcedRefusedFirst();
        forcedByTheFormula();
        due.end();
    }

    private static void variables() {
        due.sentence("promise 4", "V.");
        due.same("variables of a new object", due.court.variables(), 0);
        for (int v = 1; v <= 10; v++) {
            due.reads("p cnf " + v + " 1 1 0", 1);
            due.same("variables", due.court.variables(), v);
        }
        due.lines("2 10 0 0", 1);
        due.lines("3 d 1 2 0", 1);
        due.same("variables behind lines", due.court.variables(), 10);
        due.reads("p cnf 11 0", -7);
        due.same("variables behind a fault", due.court.variables(), 10);
        due.reads("p cnf 1 0", 0);
        due.same("variables", due.court.variables(), 1);
    }

    private static void live() {
        due.sentence("promise 5", "How many clauses are live, the formula's and the proof's.");
        due.same("live of a new object", due.court.live(), 0);
        due.reads("p cnf 1 24" + " 1 0".repeat(24), 24);
        due.same("live", due.court.live(), 24);
        for (int number = 25; number <= 40; number++) {
            due.lines(number + " 1 0 1 0", 1);
            due.same("live", due.court.live(), number);
        }
        due.lines("41 d 40 1 25 0", 1);
        due.same("live", due.court.live(), 37);
        due.lines("41 d 2 3 4 5 6 7 8 9 10 11 12 13 0", 1);
        due.lines("41 d 14 15 16 17 18 19 20 21 22 23 24 39 0", 1);
        due.same("live, the proof's alone", due.court.live(), 13);
        due.lines("41 d 26 27 28 29 30 31 32 33 34 35 36 37 0", 1);
        due.same("live", due.court.live(), 1);
        due.lines("41 d 38 0", 1);
        due.same("live, all deleted", due.court.live(), 0);
    }

    private static void liveUnchanged() {
        due.sentence("promise 5", "How many clauses are live");
        due.reads("p cnf 2 2 1 0 -1 2 0", 2);
        String[] told = {"3 -2 0 1 0", "3 0 1 2 0", "3 x", "3 1 0", "2 1 0 1 0", "3 d 3 0", "3 d 1 1 0",
            "3 d 1 3 0", "3 d 0", "3 d 1", ""};
        int[] want = {-1001, -1002, -3, -6, -2000, -2000, -2000, -2000, 1, -6, -1};
        for (int i = 0; i < told.length; i++) {
            due.lines(told[i], want[i]);
            due.same("live behind " + told[i], due.court.live(), 2);
        }
        due.reads("p cnf 2 1 1 0 x", -15);
        due.same("live behind a fault", due.court.live(), 2);
        due.same("solve", due.court.solve(), 1);
        due.same("live behind solve", due.court.live(), 2);
        due.reads("p cnf 2 0", 0);
        due.same("live", due.court.live(), 0);
    }

    private static void literalPlaces() {
        due.sentence("promise 6", "Literal i (from 0) ... 0 if there is none");
        due.reads("p cnf 7 4 7 -6 5 -4 3 -2 0 1 0 0 2 1 0", 4);
        due.holds(1, 7, -6, 5, -4, 3, -2);
        due.holds(2, 1);
        due.holds(3);
        due.holds(4, 2, 1);
        int[] outside = {MIN, MIN + 1, -256, -7, -6, -2, -1, 6, 7, 8, 16, 32, 64, 256, 65536, 1 << 30, MAX};
        for (int number = 1; number <= 4; number++) {
            for (int i : outside) {
                due.same("literal " + number + " " + i, due.court.literal(number, i), 0);
            }
        }
    }

    private static void literalAsTold() {
        due.sentence("promise 6", "as they are told");
        due.reads("p cnf 10 2 3 -1 2 0 -10 10 9 -10 1 9 -9 0", 2);
        due.holds(1, 3, -1, 2);
        due.holds(2, -10, 10, 9, 1, -9);
        due.lines("3 5 -7 5 6 7 0 0", 1);
        due.holds(3, 5, -7, 6, 7);
        due.lines("4 d 1 0", 1);
        due.holds(2, -10, 10, 9, 1, -9);
        due.holds(3, 5, -7, 6, 7);
    }

    private static void literalNumbers() {
        due.sentence("promise 6", "of the live clause with a number");
        due.reads("p cnf 3 2 1 0 2 0", 2);
        due.lines("999 3 -3 0 0", 1);
        int[] outside = {MIN, MIN + 1, MIN + 2, -999, -2, -1, 0, 3, 4, 40, 41, 257, 258, 998, 1000, 1001,
            65537, 65537 + 998, 1 << 24 | 1, MAX};
        for (int number : outside) {
            due.same("literal " + number + " 0", due.court.literal(number, 0), 0);
        }
        due.holds(1, 1);
        due.holds(2, 2);
        due.holds(999, 3, -3);
    }

    private static void literalNotLive() {
        due.sentence("promise 6", "0 if there is none");
        due.reads("p cnf 3 3 1 0 2 0 3 0", 3);
        due.lines("4 -1 0 2 0", -1001);
        due.holds(4);
        due.lines("3 -2 2 0 0", -2000);
        due.holds(3, 3);
        due.lines("5 -2 2 0 0", 1);
        due.holds(4);
        due.lines("9 d 2 5 0", 1);
        due.holds(1, 1);
        due.holds(2);
        due.holds(3, 3);
        due.holds(5);
        due.lines("9 d 1 2 0", -2000);
        due.holds(1, 1);
        due.reads("p cnf 3 1 -3 0", 1);
        due.holds(1, -3);
        due.holds(3);
    }

    private static void noClauses() {
        due.sentence("promises 7 to 9", "a formula if it satisfies all its clauses");
        for (int v = 1; v <= 10; v++) {
            due.fresh();
            due.reads("p cnf " + v + " 0", 0);
            due.same("solve", due.court.solve(), 1);
            due.same("count", due.court.count(), 1 << v);
            due.values("0000000000".substring(0, v));
            due.same("proves", due.court.proves(), false);
        }
    }

    private static void emptyClause() {
        due.sentence("promises 7 to 9", "it SATISFIES a clause if one of its literals is true");
        for (String text : new String[] {"p cnf 2 1 0", "p cnf 2 3 0 1 0 2 0", "p cnf 2 2 1 -1 0 0"}) {
            due.fresh();
            due.reads(text, text.charAt(8) - '0');
            due.same("value 1", due.court.value(1), -1);
            due.same("value 2", due.court.value(2), -1);
            due.same("solve", due.court.solve(), 0);
            due.same("count", due.court.count(), 0);
            due.same("proves", due.court.proves(), true);
        }
    }

    private static void alwaysTrueClause() {
        due.sentence("promises 7 to 9", "a LITERAL is a variable v or its opposite -v");
        due.reads("p cnf 10 2 1 -1 0 10 3 -10 0", 2);
        due.same("solve", due.court.solve(), 1);
        due.same("count", due.court.count(), 1024);
        due.values("0000000000");
        due.same("forced 0 0", due.court.forced(0, 0), 0);
        due.same("forced 1 -10", due.court.forced(1, -10), 2);
    }

    /** For each set of assignments of three variables, the formula that they alone satisfy. */
    private static void allSetsOfAssignments() {
        due.sentence("promises 7 to 9", "of two the one is less that makes the first variable in which"
                + " they differ false");
        for (int set = 0; set < 256; set++) {
            StringBuilder clauses = new StringBuilder();
            for (int assignment = 7; assignment >= 0; assignment--) {
                if ((set >> assignment & 1) == 0) {
                    clauses.append(clauseAgainst(assignment));
                }
            }
            due.fresh();
            int size = 8 - Integer.bitCount(set);
            due.reads("p cnf 3 " + size + clauses, size);
            due.same("solve", due.court.solve(), set == 0 ? 0 : 1);
            due.same("count", due.court.count(), Integer.bitCount(set));
            int least = Integer.numberOfTrailingZeros(set);
            for (int v = 1; v <= 3; v++) {
                due.same("value " + v + " of set " + set, due.court.value(v),
                        set == 0 ? -1 : least >> 3 - v & 1);
            }
            due.same("proves", due.court.proves(), set == 0);
        }
    }

    /** The clause that this assignment of three variables alone, the first the highest digit, breaks. */
    private static String clauseAgainst(int assignment) {
        StringBuilder clause = new StringBuilder();
        for (int v = 1; v <= 3; v++) {
            clause.append((assignment >> 3 - v & 1) == 1 ? " -" : " ").append(v);
        }
        return clause.append(" 0").toString();
    }

    private static void oneAssignment() {
        due.sentence("promise 8", "The truth (1, 0) of variable v");
        for (int trues = 0; trues < 1024; trues += 31) {
            StringBuilder clauses = new StringBuilder();
            StringBuilder digits = new StringBuilder();
            for (int v = 1; v <= 10; v++) {
                boolean isTrue = (trues >> v - 1 & 1) == 1;
                clauses.append(isTrue ? " " : " -").append(v).append(" 0");
                digits.append(isTrue ? '1' : '0');
            }
            due.fresh();
            due.reads("p cnf 10 10" + clauses, 10);
            due.values(digits.toString());
            due.same("solve", due.court.solve(), 1);
            due.same("count", due.court.count(), 1);
            due.same("forced 0 0", due.court.forced(0, 0), 10);
        }
    }

    private static void countHalves() {
        due.sentence("promise 9", "How many assignments satisfy the formula.");
        StringBuilder clauses = new StringBuilder();
        for (int size = 1; size <= 10; size++) {
            clauses.append(size % 2 == 0 ? " -" : " ").append(size).append(" 0");
            due.fresh();
            due.reads("p cnf 10 " + size + clauses, size);
            due.same("count", due.court.count(), 1 << 10 - size);
            due.same("count again", due.court.count(), 1 << 10 - size);
        }
        due.reads("p cnf 10 1 1 2 3 4 5 6 0", 1);
        due.same("count all but 16", due.court.count(), 1024 - 16);
        due.reads("p cnf 10 1 10 0", 1);
        due.same("count", due.court.count(), 512);
        due.reads("p cnf 10 2 10 0 -10 0", 2);
        due.same("count", due.court.count(), 0);
    }

    private static void valueLeast() {
        due.sentence("promise 8", "in the least assignment that satisfies the formula");
        due.reads("p cnf 4 4 1 2 0 1 3 0 1 4 0 -1 4 0", 4);
        due.values("0111");
        due.reads("p cnf 4 2 4 3 2 0 -4 1 0", 2);
        due.values("0010");
        due.reads("p cnf 10 1 5 1 10 0", 1);
        due.values("0000000001");
        due.reads("p cnf 10 2 5 1 10 0 -10 0", 2);
        due.values("0000100000");
        due.reads("p cnf 3 3 1 2 3 0 1 -2 0 1 -3 0", 3);
        due.values("100");
        due.reads("p cnf 6 5 1 2 3 0 -3 4 0 -4 5 0 -5 6 0 -6 -3 0", 5);
        due.values("010000");
    }

    private static void valueNoVariable() {
        due.sentence("promise 8", "-1 if there is none, or no such variable");
        for (int variables = 1; variables <= 10; variables++) {
            due.fresh();
            due.reads("p cnf " + variables + " 1 " + variables + " 0", 1);
            for (int v : new int[] {MIN, MIN + 1, -10, -1, 0, variables + 1, 11, 33, 257, 65537, MAX}) {
                due.same("value " + v + " of " + variables, due.court.value(v), -1);
            }
            due.same("value of the last", due.court.value(variables), 1);
            due.same("value -V", due.court.value(-variables), -1);
        }
    }

    private static void valueNone() {
        due.sentence("promise 8", "-1 if there is none");
        for (String text : new String[] {"p cnf 2 2 1 0 -1 0", "p cnf 2 4 1 2 0 1 -2 0 -1 2 0 -1 -2 0"}) {
            due.fresh();
            due.reads(text, text.charAt(8) - '0');
            for (int v = -1; v <= 3; v++) {
                due.same("value " + v, due.court.value(v), -1);
            }
        }
        due.reads("p cnf 2 1 2 0", 1);
        due.values("01");
    }

    private static void formulaNotProof() {
        due.sentence("promises 7 to 10", "the formula");
        due.reads("p cnf 2 2 1 2 0 -1 0", 2);
        due.lines("3 d 1 2 0", 1);
        due.lines("3 -2 0 0", 1);
        due.same("solve", due.court.solve(), 1);
        due.values("01");
        due.same("count", due.court.count(), 1);
        due.same("forced 0 0", due.court.forced(0, 0), 2);
        due.same("forced -2 0", due.court.forced(-2, 0), -1);
        due.reads("p cnf 2 2 1 0 -1 0", 2);
        due.lines("3 d 2 0", 1);
        due.same("solve", due.court.solve(), 0);
        due.same("count", due.court.count(), 0);
        due.same("value 1", due.court.value(1), -1);
        due.same("forced 0 0", due.court.forced(0, 0), -1);
        due.same("proves", due.court.proves(), true);
    }

    private static void forcedNone() {
        due.sentence("promise 10", "the literals a and b (0 for none)");
        due.reads("p cnf 3 1 1 2 0", 1);
        due.same("forced 0 0", due.court.forced(0, 0), 0);
        due.reads("p cnf 3 2 -2 0 2 3 0", 2);
        due.same("forced 0 0 with what the formula alone forces", due.court.forced(0, 0), 2);
        due.same("forced 1 0", due.court.forced(1, 0), 3);
        due.same("forced 0 1", due.court.forced(0, 1), 3);
        due.same("forced 3 0", due.court.forced(3, 0), 2);
        due.same("forced 0 -3", due.court.forced(0, -3), -1);
        due.same("forced 2 0", due.court.forced(2, 0), -1);
    }

    private static void forcedThemselves() {
        due.sentence("promise 10", "how many literals are known then, they among them");
        due.reads("p cnf 10 0", 0);
        for (int a = -10; a <= 10; a++) {
            for (int b = -10; b <= 10; b++) {
                int want = a != 0 && a == -b ? -2 : (a == 0 ? 0 : 1) + (b == 0 || b == a ? 0 : 1);
                due.same("forced " + a + " " + b, due.court.forced(a, b), want);
            }
        }
    }

    private static void forcedChain() {
        due.sentence("promise 10", "as long as a clause ... that is taken as true, too");
        due.reads(CHAIN, 9);
        for (int v = 1; v <= 10; v++) {
            due.same("forced " + v, due.court.forced(v, 0), 11 - v);
            due.same("forced " + -v, due.court.forced(0, -v), v);
        }
        due.same("forced 3 10", due.court.forced(3, 10), 8);
        due.same("forced -3 5", due.court.forced(-3, 5), 9);
        due.same("forced 3 -2", due.court.forced(3, -2), 10);
        due.same("forced 1 -10", due.court.forced(1, -10), -1);
        due.same("forced -10 1", due.court.forced(-10, 1), -1);
        due.same("forced 9 -10", due.court.forced(9, -10), -1);
        due.same("forced 0 0: nothing of it stays", due.court.forced(0, 0), 0);
    }

    /** Each clause forces something only when all behind it have; the first one is false last of all. */
    private static void forcedAll() {
        due.sentence("promise 10", "as long as a clause of the formula has all its literals false but one");
        due.reads(CHAIN.replace("10 9", "10 10") + " 1 0", 10);
        due.same("forced 0 0", due.court.forced(0, 0), 10);
        due.same("solve", due.court.solve(), 1);
        due.values("1111111111");
        due.same("count", due.court.count(), 1);
        due.reads(CHAIN.replace("10 9", "10 11 -10 -1 0") + " 1 0", 11);
        due.same("forced 0 0", due.court.forced(0, 0), -1);
        due.same("solve", due.court.solve(), 0);
        due.same("value 1", due.court.value(1), -1);
        due.same("proves", due.court.proves(), true);
    }

    private static void forcedOnlyTheLast() {
        due.sentence("promise 10", "all its literals false but one that is not known");
        due.reads("p cnf 6 2 1 2 3 4 5 6 0 -1 1 2 0", 2);
        due.same("forced -1 -2", due.court.forced(-1, -2), 2);
        due.reads("p cnf 3 1 1 2 3 0", 1);
        due.same("forced -1: two are left", due.court.forced(-1, 0), 1);
        due.same("forced -1 -2: one is left", due.court.forced(-1, -2), 3);
        due.same("forced -1 3: that one is known", due.court.forced(-1, 3), 2);
        due.same("forced -3 -2", due.court.forced(-3, -2), 3);
        due.reads("p cnf 3 1 2 2 2 0", 1);
        due.same("forced 0 0: twice counts once", due.court.forced(0, 0), 1);
    }

    private static void forcedFalse() {
        due.sentence("promise 10", "-1 if a clause has all its literals false");
        due.reads("p cnf 3 1 0", 1);
        due.same("forced 0 0 with the empty clause", due.court.forced(0, 0), -1);
        due.same("forced 1 2 with the empty clause", due.court.forced(1, 2), -1);
        due.reads("p cnf 3 1 1 2 0", 1);
        due.same("forced -1 -2", due.court.forced(-1, -2), -1);
        due.same("forced -2 -1", due.court.forced(-2, -1), -1);
        due.reads("p cnf 3 2 1 0 -1 0", 2);
        due.same("forced 0 0", due.court.forced(0, 0), -1);
        due.same("forced 3 0", due.court.forced(3, 0), -1);
        due.reads("p cnf 3 3 2 3 0 2 -3 0 -2 1 0", 3);
        due.same("forced -2 0", due.court.forced(-2, 0), -1);
        due.same("forced -1 0", due.court.forced(-1, 0), -1);
        due.same("forced 2 0", due.court.forced(2, 0), 2);
        due.same("forced 0 0: only what one clause forces", due.court.forced(0, 0), 0);
        due.reads("p cnf 2 4 1 2 0 1 -2 0 -1 2 0 -1 -2 0", 4);
        due.same("forced 0 0, though nothing satisfies it", due.court.forced(0, 0), 0);
    }

    private static void forcedRefused() {
        due.sentence("promise 10", "-2, refused, if one of them is no literal, or one is the other's"
                + " opposite");
        for (int v = 1; v <= 10; v++) {
            due.fresh();
            due.reads("p cnf " + v + " 1 1 0", 1);
            String before = due.seen();
            for (int a : new int[] {MIN, MIN + 1, -65536, -257, -11, -v - 1, v + 1, 11, 33, 256, 65537, MAX}) {
                due.same("forced " + a + " 0", due.court.forced(a, 0), -2);
                due.same("forced 0 " + a, due.court.forced(0, a), -2);
                due.same("forced 1 " + a, due.court.forced(1, a), -2);
                due.same("forced " + a + " twice", due.court.forced(a, a), -2);
                due.same("forced " + a + " and its opposite", due.court.forced(a, -a), -2);
            }
            due.same("forced V -V", due.court.forced(v, -v), -2);
            due.same("forced -V V", due.court.forced(-v, v), -2);
            due.same("forced V V", due.court.forced(v, v), v == 1 ? 1 : 2);
            due.same("forced -V -V", due.court.forced(-v, -v), v == 1 ? -1 : 2);
            due.expect("all is as before", due.seen().equals(before));
        }
    }

    private static void forcedRefusedFirst() {
        due.sentence("promise 10", "-2, refused");
        due.reads("p cnf 2 1 0", 1);
        due.same("forced 3 0 with the empty clause", due.court.forced(3, 0), -2);
        due.same("forced 1 -1 with the empty clause", due.court.forced(1, -1), -2);
        due.reads("p cnf 2 1 1 0", 1);
        due.same("forced -1 3", due.court.forced(-1, 3), -2);
        due.same("forced -1 1", due.court.forced(-1, 1), -2);
        due.same("forced -1 0", due.court.forced(-1, 0), -1);
    }

    private static void forcedByTheFormula() {
        due.sentence("promise 10", "as long as a clause of the formula");
        due.reads("p cnf 3 2 -1 2 0 -2 3 0", 2);
        due.lines("3 -3 0 0", -1000);
        due.lines("3 -1 3 0 1 2 0", 1);
        due.lines("4 1 -1 0 0", 1);
        due.lines("5 d 2 0", 1);
        due.same("forced 1 0", due.court.forced(1, 0), 3);
        due.lines("5 d 1 3 4 0", 1);
        due.same("forced 1 0", due.court.forced(1, 0), 3);
        due.same("forced -3 0", due.court.forced(-3, 0), 3);
        due.lines("5 -1 0 0", 1);
        due.same("forced 1 0", due.court.forced(1, 0), 3);
        due.same("forced 0 0", due.court.forced(0, 0), 0);
    }
}
