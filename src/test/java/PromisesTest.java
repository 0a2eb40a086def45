/** Each promise of the document: ordinary inputs, the edges that it names, and wrong inputs. */
public final class PromisesTest {
    private static final Due due = new Due();
    private static final String UNSATISFIABLE =
            "p cnf 3 8 1 2 3 0 1 2 -3 0 1 -2 3 0 1 -2 -3 0 -1 2 3 0 -1 2 -3 0 -1 -2 3 0 -1 -2 -3 0";

    public static void main(String[] args) {
        newObject();
        type();
        typeRefused();
        read();
        readRemarks();
        readFaults();
        readKeepsOrReplaces();
        variables();
        live();
        literal();
        solve();
        value();
        count();
        forced();
        lineFaults();
        lineDeletes();
        lineNumbers();
        lineLiveLimit();
        lineHints();
        lineGroups();
        lineGroupPlaces();
        lineKeepsFormula();
        refuted();
        proves();
        due.end();
    }

    private static void newObject() {
        due.section("promise 1");
        due.same("variables", due.court.variables(), 0);
        due.same("live", due.court.live(), 0);
        due.same("literal 1 0", due.court.literal(1, 0), 0);
        due.same("solve", due.court.solve(), 1);
        due.same("value 0", due.court.value(0), -1);
        due.same("value 1", due.court.value(1), -1);
        due.same("count", due.court.count(), 1);
        due.same("forced 0 0", due.court.forced(0, 0), 0);
        due.same("forced 1 0", due.court.forced(1, 0), -2);
        due.same("refuted", due.court.refuted(), false);
        due.same("proves", due.court.proves(), false);
        due.same("read", due.court.read(), -1);
        due.same("line", due.court.line(), -1);
        due.lines("1 0 0", -1000);
        due.lines("1 1 0 0", -3);
        due.lines("1 d 0", 1);
        due.lines("1 d 1 0", -2000);
    }

    private static void type() {
        due.section("promise 2");
        due.same("type p", due.court.type('p', 1), true);
        due.same("type ' c'", due.court.type(0x2063, 2), true);
        due.same("type 'nf '", due.court.type(0x6e6620, 3), true);
        due.same("type '3 0' below a byte that counts for nothing",
                due.court.type(0xff332030, 3), true);
        due.same("read", due.court.read(), 0);
        due.same("variables", due.court.variables(), 3);
        due.same("type ~", due.court.type(126, 1), true);
        due.same("read", due.court.read(), -1);
        due.same("type spaces and line ends", due.court.type(0x200a0a20, 4), true);
        due.same("read", due.court.read(), -5);
    }

    private static void typeRefused() {
        due.section("promise 2, refused");
        int[] wrongSizes = {0, -1, 5, 8, Integer.MIN_VALUE, Integer.MAX_VALUE};
        for (int n : wrongSizes) {
            due.same("type " + n, due.court.type(0x20202020, n), false);
        }
        int[] wrongBytes = {0, 9, 11, 13, 31, 127, 128, 138, 160, 255};
        for (int code : wrongBytes) {
            due.same("type code " + code, due.court.type(code, 1), false);
            due.same("type code first " + code, due.court.type(code << 24 | 0x202020, 4), false);
            due.same("type code third " + code, due.court.type(0x20200020 | code << 8, 4), false);
        }
        due.same("read: what was refused is not there", due.court.read(), -1);
        due.types(" ".repeat(158));
        due.same("type 3 more than 158", due.court.type(0x202020, 3), false);
        due.same("type 2 more than 158", due.court.type(0x2020, 2), true);
        due.same("type 1 more than 160", due.court.type(0x20, 1), false);
        due.same("read 160", due.court.read(), -161);
        due.same("type again", due.court.type(0x20, 1), true);
        due.same("read 1", due.court.read(), -2);
        due.types(" ".repeat(160));
        due.same("line 160", due.court.line(), -161);
        due.same("line", due.court.line(), -1);
    }

    private static void read() {
        due.section("promise 3");
        due.reads("p cnf 2 2 1 -2 0 2 0", 2);
        due.holds(1, 1, -2);
        due.holds(2, 2);
        due.reads("\n p\n\ncnf  10\n0 \n", 0);
        due.same("variables", due.court.variables(), 10);
        due.reads("p cnf 1 24" + " 0".repeat(24), 24);
        due.same("live", due.court.live(), 24);
        due.reads("p cnf 0010 001 0003 -01 00", 1);
        due.holds(1, 3, -1);
        due.reads("p cnf 10 1 1 -1 2 -2 10 -10 0", 1);
        due.holds(1, 1, -1, 2, -2, 10, -10);
        due.reads("p cnf 7 1 1 2 3 4 5 6 3 6 1 0", 1);
        due.holds(1, 1, 2, 3, 4, 5, 6);
        due.reads("p cnf 3 1 2\n2\n-2 0", 1);
        due.holds(1, 2, -2);
    }

    private static void readRemarks() {
        due.section("promise 3, lines that are left out");
        due.reads("c\nc c p cnf\n  c 5\np\nc\ncnf 2\nc 1 2\n1\nc 0\n1\nc\n -2\n c !\n0\nc end", 1);
        due.holds(1, 1, -2);
        due.reads(" c\np cnf 1 0", 0);
        due.reads("p cnf 1 0\nc" + "x".repeat(149), -11);
        due.reads("p cnf 1 0\nc " + "x".repeat(148), 0);
        due.reads("p cnf 1 1\nc " + "x".repeat(148), -161);
        due.reads("c p cnf 1 0", -12);
        due.reads("cc\np cnf 1 0", -1);
        due.reads("c1\np cnf 1 0", -1);
        due.reads("C\np cnf 1 0", -1);
        due.reads("p c\ncnf 1 0", -3);
        due.reads("p cnf 1 0 c", -11);
        due.reads("p cnf 1 1 1 c x\n0", -13);
        due.reads("p cnf 1 1 1\nc 0", -16);
        due.reads("p cnf 1 0\nc\n\nc x\n x", -19);
    }

    private static void readFaults() {
        due.section("promise 3, faults");
        due.reads("  ", -3);
        due.reads("p", -2);
        due.reads("pcnf 1 0", -1);
        due.reads("p cn 1 0", -3);
        due.reads("p cnf1 0", -3);
        due.reads("p cnf", -6);
        due.reads("p cnf  ", -8);
        due.reads("p cnf x", -7);
        due.reads("p cnf -1 0", -7);
        due.reads("p cnf 00001 0", -7);
        due.reads("p cnf 1- 0", -7);
        due.reads("p cnf - 0", -7);
        due.reads("p cnf --1 0", -7);
        due.reads("p cnf +1 0", -7);
        due.reads("p cnf 1", -8);
        due.reads("p cnf 1 -1", -9);
        due.reads("p cnf 1 25", -9);
        due.reads("p cnf 1 9999", -9);
        due.reads("p cnf 1 0 0", -11);
        due.reads("p cnf 1 1", -10);
        due.reads("p cnf 1 1 1", -12);
        due.reads("p cnf 1 1 2 0", -11);
        due.reads("p cnf 1 1 -2 0", -11);
        due.reads("p cnf 9 1 10 0", -11);
        due.reads("p cnf 1 1 1 -1 x", -16);
        due.reads("p cnf 1 1 10000 0", -11);
        due.reads("p cnf 1 1 1/ 0", -11);
        due.reads("p cnf 1 1 : 0", -11);
        due.reads("p cnf 7 1 1 2 3 4 5 6 1 -7 x", -25);
        due.reads("p cnf 1 2 1 0 0 d", -17);
    }

    private static void readKeepsOrReplaces() {
        due.section("promise 3, what stays and what goes");
        due.reads("p cnf 2 2 1 0 -1 0", 2);
        due.lines("3 0 1 2 0", 1);
        due.reads("p cnf 3 1 1 0 x", -15);
        due.same("variables", due.court.variables(), 2);
        due.same("live", due.court.live(), 3);
        due.same("refuted", due.court.refuted(), true);
        due.same("solve", due.court.solve(), 0);
        due.same("count", due.court.count(), 0);
        due.same("proves", due.court.proves(), true);
        due.same("read: nothing is typed behind a fault", due.court.read(), -1);
        due.reads("p cnf 3 1 -3 0", 1);
        due.same("variables", due.court.variables(), 3);
        due.same("live", due.court.live(), 1);
        due.same("refuted", due.court.refuted(), false);
        due.same("solve", due.court.solve(), 1);
        due.same("count", due.court.count(), 4);
        due.same("proves", due.court.proves(), false);
        due.holds(1, -3);
        due.holds(2);
        due.same("read: nothing is typed", due.court.read(), -1);
        due.lines("2 1 -1 0 0", 1);
    }

    private static void variables() {
        due.section("promise 4");
        for (int v = 1; v <= 10; v++) {
            due.reads("p cnf " + v + " 0", 0);
            due.same("variables", due.court.variables(), v);
        }
        due.reads("p cnf 11 0", -7);
        due.same("variables", due.court.variables(), 10);
    }

    private static void live() {
        due.section("promise 5");
        due.reads("p cnf 2 3 1 0 2 0 0", 3);
        due.same("live", due.court.live(), 3);
        due.lines("4 1 -1 0 0", 1);
        due.same("live", due.court.live(), 4);
        due.lines("5 d 1 4 0", 1);
        due.same("live", due.court.live(), 2);
        due.lines("5 1 0 1 0", -1000);
        due.same("live behind a failure", due.court.live(), 2);
        due.lines("5 d 2 1 0", -2000);
        due.same("live behind a refusal", due.court.live(), 2);
        due.reads("p cnf 2 0", 0);
        due.same("live", due.court.live(), 0);
    }

    private static void literal() {
        due.section("promise 6");
        due.reads("p cnf 10 3 -10 3 -10 3 1 0 0 4 0", 3);
        due.holds(1, -10, 3, 1);
        due.holds(2);
        due.holds(3, 4);
        due.same("literal 1 -1", due.court.literal(1, -1), 0);
        due.same("literal 1 6", due.court.literal(1, 6), 0);
        due.same("literal 1 max", due.court.literal(1, Integer.MAX_VALUE), 0);
        due.same("literal 1 min", due.court.literal(1, Integer.MIN_VALUE), 0);
        due.same("literal 0 0", due.court.literal(0, 0), 0);
        due.same("literal -1 0", due.court.literal(-1, 0), 0);
        due.same("literal 1000 0", due.court.literal(1000, 0), 0);
        due.same("literal min 0", due.court.literal(Integer.MIN_VALUE, 0), 0);
        due.lines("999 7 -7 7 5 0 0", 1);
        due.holds(999, 7, -7, 5);
        due.lines("1 d 1 999 0", 1);
        due.holds(1);
        due.holds(999);
        due.holds(3, 4);
    }

    private static void solve() {
        due.section("promise 7");
        due.reads("p cnf 10 0", 0);
        due.same("solve", due.court.solve(), 1);
        due.reads("p cnf 1 1 0", 1);
        due.same("solve with the empty clause", due.court.solve(), 0);
        due.reads("p cnf 1 1 1 -1 0", 1);
        due.same("solve with a clause that is always true", due.court.solve(), 1);
        due.reads(UNSATISFIABLE, 8);
        due.same("solve", due.court.solve(), 0);
        due.same("solve again", due.court.solve(), 0);
        due.reads(UNSATISFIABLE.replace("3 8", "3 7").replace(" 1 -2 3 0", ""), 7);
        due.same("solve", due.court.solve(), 1);
        due.same("value 1", due.court.value(1), 0);
        due.same("value 2", due.court.value(2), 1);
        due.same("value 3", due.court.value(3), 0);
    }

    private static void value() {
        due.section("promise 8");
        due.reads("p cnf 10 0", 0);
        for (int v = 1; v <= 10; v++) {
            due.same("value " + v, due.court.value(v), 0);
        }
        due.reads("p cnf 4 3 1 4 0 -4 2 0 -4 3 0", 3);
        int[] least = {0, 1, 1, 1};
        for (int v = 1; v <= 4; v++) {
            due.same("value " + v, due.court.value(v), least[v - 1]);
        }
        int[] noVariables = {0, 5, -1, 11, Integer.MIN_VALUE, Integer.MAX_VALUE};
        for (int v : noVariables) {
            due.same("value " + v, due.court.value(v), -1);
        }
        due.reads("p cnf 2 3 1 2 0 1 -2 0 -1 0", 3);
        due.same("value 1 of none", due.court.value(1), -1);
        due.same("value 2 of none", due.court.value(2), -1);
    }

    private static void count() {
        due.section("promise 9");
        due.reads("p cnf 10 0", 0);
        due.same("count", due.court.count(), 1024);
        due.reads("p cnf 10 1 1 -1 0", 1);
        due.same("count", due.court.count(), 1024);
        due.reads("p cnf 10 1 1 2 3 4 5 6 0", 1);
        due.same("count", due.court.count(), 1008);
        due.reads("p cnf 3 2 1 -2 0 3 0", 2);
        due.same("count", due.court.count(), 3);
        due.same("count again", due.court.count(), 3);
        due.reads("p cnf 3 1 0", 1);
        due.same("count", due.court.count(), 0);
        due.reads(UNSATISFIABLE, 8);
        due.same("count", due.court.count(), 0);
    }

    private static void forced() {
        due.section("promise 10");
        due.reads("p cnf 5 4 -4 5 0 -3 4 0 -2 3 0 -1 -5 0", 4);
        due.same("forced 0 0", due.court.forced(0, 0), 0);
        due.same("forced 2 0", due.court.forced(2, 0), 5);
        due.same("forced 0 2", due.court.forced(0, 2), 5);
        due.same("forced 2 2", due.court.forced(2, 2), 5);
        due.same("forced 4 0", due.court.forced(4, 0), 3);
        due.same("forced 1 0", due.court.forced(1, 0), 5);
        due.same("forced 1 2", due.court.forced(1, 2), -1);
        due.same("forced 2 1", due.court.forced(2, 1), -1);
        due.same("forced -2 5", due.court.forced(-2, 5), 3);
        int[] noLiterals = {6, -6, 11, -11, Integer.MAX_VALUE, Integer.MIN_VALUE};
        for (int a : noLiterals) {
            due.same("forced " + a + " 0", due.court.forced(a, 0), -2);
            due.same("forced 1 " + a, due.court.forced(1, a), -2);
        }
        due.same("forced min min", due.court.forced(Integer.MIN_VALUE, Integer.MIN_VALUE), -2);
        due.same("forced 3 -3", due.court.forced(3, -3), -2);
        due.same("forced -3 3", due.court.forced(-3, 3), -2);
        due.reads("p cnf 2 2 1 0 2 -2 0", 2);
        due.same("forced by nothing", due.court.forced(0, 0), 1);
        due.same("forced -1 0", due.court.forced(-1, 0), -1);
        due.same("forced 1 -1 is refused, not false", due.court.forced(1, -1), -2);
        due.lines("3 -2 1 0 1 0", 1);
        due.lines("4 d 1 0", 1);
        due.same("forced by the formula alone", due.court.forced(0, 0), 1);
        due.same("forced 2 0", due.court.forced(2, 0), 2);
        due.reads("p cnf 1 1 0", 1);
        due.same("forced with the empty clause", due.court.forced(1, 0), -1);
        due.same("forced 2 0 with the empty clause", due.court.forced(2, 0), -2);
    }

    private static void lineFaults() {
        due.section("promise 11, faults");
        due.reads("p cnf 7 1 1 0", 1);
        due.lines("", -1);
        due.lines(" \n", -3);
        due.lines("2", -2);
        due.lines("-2 1 0 0", -1);
        due.lines("d 1 0", -1);
        due.lines("c\n2 1 0 1 0", -1);
        due.lines("2 1\nc\n0 1 0", -5);
        due.lines("2 8 0 0", -3);
        due.lines("2 -8 0 0", -3);
        due.lines("2 1 d 0", -5);
        due.lines("2 D 1 0", -3);
        due.lines("2 1 2 3 4 5 6 1 7 0 0", -17);
        due.lines("2 1 0", -6);
        due.lines("2 1 0 1", -8);
        due.lines("2 1 0 1 ", -9);
        due.lines("2 1 0 1000 0", -7);
        due.lines("2 1 0 -1000 0", -7);
        due.lines("2 1 0 d 0", -7);
        due.lines("2 1 0 1 0 0", -11);
        due.lines("2 1 0 1 0\nc", -11);
        due.lines("2 d", -4);
        due.lines("2 d 1", -6);
        due.lines("2 d -1 0", -5);
        due.lines("2 d 1000 0", -5);
        due.lines("2 d d 0", -5);
        due.lines("2 d 1 0 0", -9);
        due.lines("2 d 1 2 3 4 5 6 7 8 9 9 9 9 9 0", -29);
        due.lines("2 d 1 2 3 4 5 6 7 8 9 9 9 9 0", -2000);
        due.lines("2 1 0 1 2 3 4 5 6 7 8 9 9 9 9 9 0", -31);
        due.lines("1 1 0 1 2 x 0", -11);
        due.same("live", due.court.live(), 1);
        due.lines("2 1 0 1 2 3 4 5 6 7 8 9 9 9 9 0", 1);
        due.lines("\n03\n1  0001 00 1 000\n", 1);
        due.holds(3, 1);
    }

    private static void lineDeletes() {
        due.section("promise 11, lines that delete");
        due.reads("p cnf 2 4 1 0 2 0 -1 0 1 2 0", 4);
        due.lines("1 d 3 2 0", 1);
        due.same("live", due.court.live(), 2);
        due.lines("999 d 0", 1);
        due.same("live", due.court.live(), 2);
        due.lines("9 d 4 2 0", -2000);
        due.lines("9 d 1 1 0", -2000);
        due.lines("9 d 5 0", -2000);
        due.holds(1, 1);
        due.holds(4, 1, 2);
        due.lines("5 1 0 1 0", 1);
        due.lines("6 d 1 4 5 0", 1);
        due.same("live", due.court.live(), 0);
        due.lines("5 1 -1 0 0", -2000);
        due.lines("6 1 -1 0 0", 1);
        due.reads("p cnf 1 12" + " 1 0".repeat(12), 12);
        due.lines("1 d 12 11 10 9 8 7 6 5 4 3 2 1 0", 1);
        due.same("live", due.court.live(), 0);
    }

    private static void lineNumbers() {
        due.section("promise 11, numbers");
        due.reads("p cnf 2 2 1 0 1 2 0", 2);
        due.lines("2 1 0 1 0", -2000);
        due.lines("1 1 0 1 0", -2000);
        due.lines("2 2 0 9 0", -2000);
        due.lines("7 2 0 9 0", -1000);
        due.lines("6 1 0 1 0", 1);
        due.lines("6 1 0 1 0", -2000);
        due.lines("5 1 0 1 0", -2000);
        due.lines("999 d 6 0", 1);
        due.lines("6 1 0 1 0", -2000);
        due.lines("7 1 0 1 0", 1);
        due.lines("8 d 2 0", 1);
        due.lines("999 1 0 1 0", 1);
        due.lines("999 1 0 1 0", -2000);
        due.reads("p cnf 1 1 1 0", 1);
        due.lines("2 1 0 1 0", 1);
    }

    private static void lineLiveLimit() {
        due.section("promise 11, at most 40 live");
        due.reads("p cnf 1 24" + " 1 0".repeat(24), 24);
        for (int number = 25; number <= 40; number++) {
            due.lines(number + " 1 -1 0 0", 1);
        }
        due.same("live", due.court.live(), 40);
        due.lines("41 1 -1 0 0", -2000);
        due.lines("41 -1 0 99 0", -2000);
        due.lines("41 d 40 0", 1);
        due.lines("41 -1 0 99 0", -1000);
        due.lines("41 1 0 1 0", 1);
        due.same("live", due.court.live(), 40);
    }

    private static void lineHints() {
        due.section("promise 11, hints");
        due.reads("p cnf 4 5 1 2 0 -2 3 0 -3 4 0 -4 1 0 -1 0", 5);
        due.lines("6 1 0 1 2 3 0", -1003);
        due.lines("6 1 0 1 3 4 0", -1001);
        due.lines("6 1 0 1 1 2 3 4 0", -1001);
        due.lines("6 1 0 6 1 2 3 4 0", -1000);
        due.lines("6 1 0 1 2 9 3 4 0", -1002);
        due.lines("6 0 1 0", -1000);
        due.lines("6 0 5 1 2 3 0", -1004);
        due.lines("6 0 5 -1 1 0", -1001);
        due.lines("6 0 -1 0", -1000);
        due.lines("6 0 0", -1000);
        due.lines("6 1 0 1 2 3 4 99 -99 0", 1);
        due.holds(6, 1);
        due.lines("7 1 2 0 1 0", 1);
        due.lines("8 3 -4 0 3 0", -1000);
        due.lines("8 2 -2 0 99 -99 0", 1);
        due.lines("9 3 0 8 0", -1000);
        due.lines("9 2 0 8 0", -1000);
        due.lines("9 d 6 0", 1);
        due.lines("9 1 0 6 0", -1000);
        due.lines("9 4 3 2 0 5 1 0", 1);
        due.holds(9, 4, 3, 2);
        due.lines("10 0 5 1 2 3 4 0", 1);
        due.lines("11 -1 0 10 0", 1);
    }

    private static void lineGroups() {
        due.section("promise 11, groups");
        due.reads("p cnf 4 3 -1 2 0 2 4 0 2 -4 1 0", 3);
        due.lines("4 1 0 0", -1000);
        due.lines("4 1 0 -1 0", -1001);
        due.lines("4 1 0 -1 2 0", -1002);
        due.lines("4 1 0 -1 3 0", -1002);
        due.lines("4 1 0 -1 2 2 3 0", -1002);
        due.lines("4 1 0 -1 2 9 3 0", -1002);
        due.lines("4 1 0 2 -1 3 0", -1000);
        due.lines("4 1 0 -1 2 3 9 9 0", 1);
        due.lines("5 1 0 -1 3 2 0", 1);
        due.lines("6 1 -4 0 3 -1 9 0", 1);
        due.lines("7 -3 1 0 0", 1);
        due.lines("8 -3 1 0 -1 0", -1000);
        due.lines("8 -1 3 0 -3 2 0", -1001);
        due.lines("8 2 -1 0 1 0", 1);
        due.reads("p cnf 4 6 -1 2 0 -1 3 0 2 4 1 0 2 -4 0 3 4 0 3 -4 0", 6);
        due.lines("7 1 0 -1 3 4 0", -1003);
        due.lines("7 1 0 -1 3 4 -2 5 0", -1005);
        due.lines("7 1 0 -2 5 6 -1 3 4 0", -1000);
        due.lines("7 1 0 -1 3 4 -2 5 6 0", 1);
        due.lines("8 d 1 0", 1);
        due.lines("8 1 0 -1 3 4 -2 5 6 0", -1000);
        due.lines("8 1 0 -2 5 6 0", 1);
        due.lines("9 d 2 0", 1);
        due.lines("9 1 0 0", 1);
        due.reads("p cnf 2 2 -1 2 0 -2 -1 0", 2);
        due.lines("5 1 2 0 -1 -2 0", -1001);
        due.lines("5 2 1 0 -2 0", 1);
        due.lines("6 2 -1 0 -2 0", -1001);
        due.lines("6 2 1 1 2 0 0", -1000);
    }

    private static void lineGroupPlaces() {
        due.section("promise 11, places of groups");
        due.reads("p cnf 4 5 -1 2 0 -1 3 0 -1 4 -4 0 -1 1 2 0 -2 0", 5);
        due.lines("6 1 0 -2 0", -1000);
        due.lines("6 1 0 -1 5 0", -1001);
        due.lines("6 1 0 5 -1 0", -1002);
        due.lines("6 1 0 5 -1 5 0", -1002);
        due.lines("6 1 -2 -3 0 -1 5 -2 0", -1003);
        due.lines("6 1 2 0 5 -1 0", -1000);
        due.lines("6 1 -2 0 -1 -2 0", -1002);
        due.lines("6 d 1 2 5 0", 1);
        due.lines("6 1 0 -3 0", -1001);
        due.lines("6 1 0 -3 9 9 -4 0", -1004);
        due.lines("6 1 0 -4 -3 0", -1000);
        due.lines("6 1 2 0 -3 9 -4 0", -1003);
        due.lines("6 -2 -1 0 0", -1000);
        due.lines("6 -2 -1 0 -4 0", 1);
        due.lines("7 -2 0 -4 6 0", 1);
        due.lines("8 d 7 0", 1);
        due.lines("8 1 0 -3 9 9 -4 6 0", -1004);
        due.lines("8 1 2 0 -3 -4 -6 0", -1002);
        due.lines("9 d 4 0", 1);
        due.lines("8 1 2 0 -3 9 -6 0", 1);
        due.lines("9 1 2 0 -3 9 -6 9 -8 0", -1004);
        due.lines("9 1 2 0 -3 9 -6 9 -3 0", -1004);
        due.reads("p cnf 2 13" + " -1 2 0".repeat(13), 13);
        due.lines("14 1 -2 0 -1 -2 -3 -4 -5 -6 -7 -8 -9 -10 -11 -12 0", -1012);
        due.lines("14 1 -2 0 -1 -2 -3 -4 -5 -6 -7 -8 -9 -10 -11 12 0", -1012);
        due.lines("14 d 13 0", 1);
        due.lines("14 1 -2 0 -1 -2 -3 -4 -5 -6 -7 -8 -9 -10 -11 12 0", -1012);
        due.lines("14 1 -2 0 -1 -2 -3 -4 -5 -6 -7 -8 -9 -10 -11 -12 0", 1);
    }

    private static void lineKeepsFormula() {
        due.section("the formula is not the proof");
        due.reads("p cnf 2 2 1 2 0 -1 0", 2);
        due.lines("3 -2 1 0 -1 2 0", -1001);
        due.lines("3 d 1 2 0", 1);
        due.lines("3 -2 0 0", 1);
        due.same("solve", due.court.solve(), 1);
        due.same("value 2", due.court.value(2), 1);
        due.same("count", due.court.count(), 1);
        due.same("forced 0 0", due.court.forced(0, 0), 2);
        due.same("proves", due.court.proves(), false);
        due.same("variables", due.court.variables(), 2);
    }

    private static void refuted() {
        due.section("promise 12");
        due.reads("p cnf 1 3 0 1 0 -1 0", 3);
        due.same("refuted: the formula's empty clause is not the proof's", due.court.refuted(), false);
        due.lines("4 0 2 0", -1001);
        due.same("refuted behind a failure", due.court.refuted(), false);
        due.lines("4 1 0 2 0", 1);
        due.same("refuted behind another clause", due.court.refuted(), false);
        due.lines("5 0 2 3 0", 1);
        due.same("refuted", due.court.refuted(), true);
        due.lines("6 d 5 0", 1);
        due.same("refuted, deleted since", due.court.refuted(), true);
        due.lines("6 0 2 0", -1001);
        due.same("refuted behind a failure", due.court.refuted(), true);
        due.reads("x", -1);
        due.same("refuted behind a fault", due.court.refuted(), true);
        due.reads("p cnf 1 1 1 0", 1);
        due.same("refuted", due.court.refuted(), false);
    }

    private static void proves() {
        due.section("promise 13");
        due.reads(UNSATISFIABLE, 8);
        due.same("proves before solve", due.court.proves(), true);
        due.same("proves again", due.court.proves(), true);
        due.same("refuted: the search adds nothing", due.court.refuted(), false);
        due.same("live: the search adds nothing", due.court.live(), 8);
        due.reads("p cnf 1 1 0", 1);
        due.same("proves by the empty clause", due.court.proves(), true);
        due.reads("p cnf 3 1 1 0", 1);
        due.same("proves", due.court.proves(), false);
        due.reads("p cnf 6 9 1 2 0 3 4 0 5 6 0 -1 -3 0 -1 -5 0 -3 -5 0 -2 -4 0 -2 -6 0 -4 -6 0", 9);
        due.same("proves that three are not two", due.court.proves(), true);
        due.reads("p cnf 10 11 1 2 0 -2 3 0 -3 4 0 -4 5 0 -5 6 0 -6 7 0 -7 8 0 -8 9 0 -9 10 0 -10 1 0"
                + " -1 0", 11);
        due.same("proves along a chain", due.court.proves(), true);
        StringBuilder wide = new StringBuilder("p cnf 9 15 1 2 3 8 0 4 5 6 7 -8 0 1 2 3 6 -7 0");
        for (int v = 1; v <= 6; v++) {
            wide.append(" -" + v + " 9 0 -" + v + " -9 0");
        }
        due.reads(wide.toString(), 15);
        due.same("proves by many decisions", due.court.proves(), true);
    }
}
