/** Promise 11, the checking of lines that add: each sentence that names an edge, by itself. */
public final class StepEdgesTest {
    private static final Due due = new Due();
    private static final String RING = "p cnf 4 5 1 2 0 -2 3 0 -3 4 0 -4 1 0 -1 0";
    // The clauses 2, 4 and 5 have the opposite of 1; their groups are -2 1 3, -4 1 6 and -5 7 8.
    private static final String THREE =
            "p cnf 4 8 2 3 0 -1 2 0 2 -3 0 -1 3 0 4 -1 0 -2 3 0 4 2 0 4 -2 0";

    public static void main(String[] args) {
        takenAsFalse();
        oneAndItsOpposite();
        hintMustBeLive();
        hintOfTheProof();
        conflict();
        behindTheConflict();
        emptyClauseAsHint();
        allButOne();
        twoLeft();
        lastIsKnown();
        emptyClauseFails();
        emptyClauseWithGroups();
        noGroup();
        noGroupNoneNeeded();
        firstLiteral();
        groupsInOrder();
        groupMissing();
        noOtherGroups();
        groupsOfLiveClauses();
        knownBeforeTheFirst();
        knownFromHintsBefore();
        groupHoldsAtOnce();
        groupAtOnceStillDue();
        groupNotAtOnce();
        groupWithFirstLiteral();
        groupHintFails();
        groupWithoutConflict();
        groupBehindConflict();
        hintBeforeGroupsFails();
        lastPlace();
        failureChangesNothing();
        due.end();
    }

    private static void takenAsFalse() {
        due.sentence("CHECKING", "all literals of the clause are taken as false");
        due.reads("p cnf 7 3 1 2 0 -1 3 0 1 2 3 4 5 6 0", 3);
        due.lines("4 1 0 1 0", -1001);
        due.lines("4 1 2 0 1 0", 1);
        due.lines("5 2 1 0 1 0", 1);
        due.lines("6 7 -3 1 2 0 1 0", 1);
        due.lines("7 -1 3 0 2 0", 1);
        due.lines("8 1 -3 0 2 0", -1000);
        due.lines("8 6 5 4 3 2 1 0 3 0", 1);
    }

    private static void oneAndItsOpposite() {
        due.sentence("CHECKING", "If one and its opposite are in the clause, the step holds.");
        due.reads("p cnf 3 2 1 0 -1 2 0", 2);
        due.lines("3 1 -1 0 0", 1);
        due.lines("4 -3 1 2 3 0 0", 1);
        due.lines("5 2 -2 0 99 0", 1);
        due.lines("6 -2 3 2 0 -99 0", 1);
        due.lines("7 3 -3 0 2 2 -1 -1 0", 1);
        due.lines("8 1 2 3 0 99 0", -1000);
        due.same("live", due.court.live(), 7);
    }

    private static void hintMustBeLive() {
        due.sentence("CHECKING", "the clause with that number must be live");
        due.reads(RING, 5);
        due.lines("6 1 0 9 0", -1000);
        due.lines("6 1 0 6 0", -1000);
        due.lines("6 1 0 999 1 2 3 4 0", -1000);
        due.lines("6 1 0 1 9 2 3 4 0", -1001);
        due.lines("6 1 0 1 2 6 3 4 0", -1002);
        due.lines("6 1 0 1 2 3 9 0", -1003);
        due.lines("6 d 2 0", 1);
        due.lines("6 1 0 1 2 3 4 0", -1001);
        due.lines("6 0 5 1 2 0", -1002);
    }

    private static void hintOfTheProof() {
        due.sentence("CHECKING", "the clause with that number must be live");
        due.reads(RING, 5);
        due.lines("6 1 3 0 1 2 0", 1);
        due.lines("7 1 0 6 3 4 0", 1);
        due.lines("8 d 6 0", 1);
        due.lines("8 1 0 6 3 4 0", -1000);
        due.lines("8 1 0 7 0", 1);
        due.lines("9 0 5 8 0", 1);
        due.lines("10 0 9 0", 1);
        due.lines("11 2 0 10 0", 1);
    }

    private static void conflict() {
        due.sentence("CHECKING", "if all its literals are false, there is a CONFLICT, and the step holds");
        due.reads(RING, 5);
        due.lines("6 1 0 1 2 3 0", -1003);
        due.lines("6 1 0 1 2 3 4 0", 1);
        due.lines("7 1 2 0 1 0", 1);
        due.lines("8 0 5 6 0", 1);
        due.lines("9 -2 3 1 0 2 0", 1);
    }

    private static void behindTheConflict() {
        due.sentence("CHECKING", "(hints behind it count for nothing)");
        due.reads(RING, 5);
        due.lines("6 1 2 0 1 99 0", 1);
        due.lines("7 1 2 0 1 1 3 0", 1);
        due.lines("8 1 2 0 1 -99 0", 1);
        due.lines("9 1 2 0 1 -5 9 9 -5 0", 1);
        due.lines("10 0 5 1 2 3 4 -1 -2 10 0", 1);
        due.same("refuted", due.court.refuted(), true);
    }

    private static void emptyClauseAsHint() {
        due.sentence("CHECKING", "if all its literals are false, there is a CONFLICT");
        due.reads("p cnf 2 3 0 1 0 -1 2 0", 3);
        due.lines("4 0 1 0", 1);
        due.lines("5 -1 0 4 0", 1);
        due.lines("6 1 0 3 1 0", -1000);
        due.lines("6 -2 0 1 99 0", 1);
    }

    private static void allButOne() {
        due.sentence("CHECKING", "if all but one are false, and that one is not known, it is taken as true");
        due.reads("p cnf 6 5 1 2 3 4 5 6 0 -6 1 0 -1 0 2 0 -2 -6 0", 5);
        due.lines("6 1 2 3 4 5 0 1 2 0", 1);
        due.lines("7 -6 0 4 5 0", 1);
        due.lines("8 0 4 5 3 0", -1003);
        due.lines("8 6 0 4 1 0", -1001);
        due.lines("8 1 3 5 4 0 4 5 1 0", -1002);
        due.lines("8 1 3 4 5 2 0 2 1 0", 1);
    }

    private static void twoLeft() {
        due.sentence("CHECKING", "else the step FAILS");
        due.reads("p cnf 4 4 1 2 3 0 -1 4 0 2 -2 0 -3 0", 4);
        due.lines("5 1 0 1 0", -1000);
        due.lines("5 0 2 0", -1000);
        due.lines("5 0 4 1 0", -1001);
        due.lines("5 4 0 2 1 0", -1001);
        due.lines("5 0 3 0", -1000);
        due.lines("5 1 0 4 3 0", -1001);
        due.lines("5 3 -4 0 1 0", -1000);
        due.lines("5 3 -2 0 1 0", -1000);
    }

    private static void lastIsKnown() {
        due.sentence("CHECKING", "and that one is not known ... else the step FAILS");
        due.reads(RING, 5);
        due.lines("6 1 0 1 1 2 3 4 0", -1001);
        due.lines("6 1 0 1 2 2 3 4 0", -1002);
        due.lines("6 1 0 1 2 3 3 4 0", -1003);
        due.lines("6 0 5 5 0", -1001);
        due.lines("6 1 -2 0 1 0", -1000);
        due.lines("6 -1 0 1 0", -1000);
        due.lines("6 -1 2 0 1 0", -1000);
        due.lines("6 2 -2 0 0", 1);
        due.lines("7 2 0 6 0", -1000);
        due.lines("7 -2 0 6 0", -1000);
    }

    private static void emptyClauseFails() {
        due.sentence("CHECKING", "Without a conflict: if the clause is empty ... the step fails");
        due.lines("1 0 0", -1000);
        due.reads("p cnf 3 0", 0);
        due.lines("1 0 0", -1000);
        due.reads(RING, 5);
        due.lines("6 0 0", -1000);
        due.lines("6 0 5 0", -1001);
        due.lines("6 0 5 1 0", -1002);
        due.lines("6 0 5 1 2 3 0", -1004);
        due.lines("6 0 5 1 2 4 0", -1004);
        due.same("refuted", due.court.refuted(), false);
        due.same("live", due.court.live(), 5);
    }

    private static void emptyClauseWithGroups() {
        due.sentence("promise 11", "(for the empty clause, of the first group)");
        due.reads(RING, 5);
        due.lines("6 0 -5 0", -1000);
        due.lines("6 0 -1 -2 -3 0", -1000);
        due.lines("6 0 5 -1 2 0", -1001);
        due.lines("6 0 5 1 -99 2 -98 0", -1002);
        due.lines("6 0 5 1 2 3 -4 4 0", -1004);
        due.lines("6 0 1 -5 0", -1000);
        due.lines("6 0 5 9 -5 0", -1001);
        due.lines("6 0 5 1 2 3 4 -5 0", 1);
    }

    private static void noGroup() {
        due.sentence("CHECKING", "or there is no group and a live clause has the opposite of the FIRST"
                + " literal, the step fails");
        due.reads(RING, 5);
        due.lines("6 1 0 0", -1000);
        due.lines("6 1 0 1 0", -1001);
        due.lines("6 1 0 1 2 0", -1002);
        due.lines("6 1 0 1 2 3 0", -1003);
        due.lines("6 -1 2 0 0", -1000);
        due.lines("6 -4 0 0", -1000);
        due.reads("p cnf 10 10 -1 10 0 1 2 0 -2 3 0 -3 4 0 -4 5 0 -5 6 0 -6 7 0 -7 8 0 -8 9 0 10 0", 10);
        due.lines("11 1 0 2 3 4 5 6 7 8 9 0", -1008);
        due.lines("11 1 0 2 3 4 5 6 7 8 9 10 0", -1009);
    }

    private static void noGroupNoneNeeded() {
        due.sentence("CHECKING", "there is no group and a live clause has the opposite");
        due.reads("p cnf 3 1 1 2 0", 1);
        due.lines("2 1 0 0", 1);
        due.lines("3 2 0 1 0", 1);
        due.lines("4 3 -1 0 0", 1);
        due.lines("5 -3 0 0", -1000);
        due.lines("5 -1 0 0", -1000);
        due.lines("5 d 4 0", 1);
        due.lines("5 -3 0 0", 1);
        due.lines("6 d 1 2 3 5 0", 1);
        due.lines("6 -1 -2 0 0", 1);
    }

    private static void firstLiteral() {
        due.sentence("CHECKING", "the opposite of the FIRST literal");
        due.reads("p cnf 4 2 -2 4 0 -2 -4 0", 2);
        due.lines("3 2 1 3 0 0", -1000);
        due.lines("3 2 2 1 3 0 0", -1000);
        due.lines("3 2 1 0 -1 2 -2 1 0", -1001);
        due.lines("3 1 2 3 0 0", 1);
        due.lines("4 3 2 1 0 0", 1);
        due.lines("5 1 1 2 0 0", 1);
        due.lines("6 4 1 0 0", -1000);
        due.lines("6 -1 0 0", -1000);
        due.lines("6 -4 2 3 0 0", -1000);
    }

    private static void groupsInOrder() {
        due.sentence("CHECKING", "in the order of their numbers, the groups beginning with less its number");
        due.reads(THREE, 8);
        due.lines("9 1 0 -4 1 6 -2 1 3 -5 7 8 0", -1000);
        due.lines("9 1 0 -2 1 3 -5 7 8 -4 1 6 0", -1003);
        due.lines("9 1 0 -5 7 8 -4 1 6 -2 1 3 0", -1000);
        due.lines("9 1 0 2 1 3 -4 1 6 -5 7 8 0", -1000);
        due.lines("9 1 0 -2 1 3 4 1 6 -5 7 8 0", -1006);
        due.lines("9 1 0 -2 1 3 -4 1 6 -5 7 8 0", 1);
        due.holds(9, 1);
    }

    private static void groupMissing() {
        due.sentence("promise 11", "where a conflict or a group is missing, of the next hint, the number of"
                + " hints if there is none");
        due.reads(THREE, 8);
        due.lines("9 1 0 0", -1000);
        due.lines("9 1 0 -4 1 6 -5 7 8 0", -1000);
        due.lines("9 1 0 -2 1 3 -5 7 8 0", -1003);
        due.lines("9 1 0 -2 1 3 -4 1 6 0", -1006);
        due.lines("9 1 0 -2 1 3 0", -1003);
        due.lines("9 1 0 -2 1 3 9 9 0", -1005);
        due.lines("9 1 0 -5 7 8 0", -1000);
    }

    private static void noOtherGroups() {
        due.sentence("CHECKING", "there are no other groups");
        due.reads(THREE, 8);
        for (int other : new int[] {1, 2, 3, 4, 5, 6, 9, 10, 999}) {
            due.lines("9 1 0 -2 1 3 -4 1 6 -5 7 8 -" + other + " 0", -1009);
        }
        due.lines("9 1 0 -2 1 3 -4 1 6 -5 7 8 -9 9 9 0", -1009);
        due.lines("9 1 0 -1 -2 1 3 -4 1 6 -5 7 8 0", -1000);
        due.lines("9 1 0 -2 1 3 -3 -4 1 6 -5 7 8 0", -1003);
        due.lines("9 1 0 -2 1 3 -2 -4 1 6 -5 7 8 0", -1003);
        due.lines("9 1 0 -2 1 3 -4 1 6 -9 -5 7 8 0", -1006);
        due.lines("9 -1 2 0 2 -1 0", 1);
        due.reads("p cnf 3 1 1 2 0", 1);
        due.lines("2 3 0 -1 0", -1000);
        due.lines("2 1 0 -1 2 0", -1000);
        due.lines("2 1 0 -9 0", -1000);
        due.lines("2 2 0 1 -1 0", -1001);
        due.lines("2 2 0 1 0", 1);
    }

    private static void groupsOfLiveClauses() {
        due.sentence("CHECKING", "each live clause with the opposite of the first literal must have its"
                + " group");
        due.reads(THREE, 8);
        due.lines("10 -1 2 0 2 0", 1);
        due.lines("11 1 0 -2 1 3 -4 1 6 -5 7 8 0", -1009);
        due.lines("11 1 0 -2 1 3 -4 1 6 -5 7 8 -10 0", -1010);
        due.lines("11 1 0 -2 1 3 -4 1 6 -5 7 8 -10 1 3 0", 1);
        due.lines("12 d 10 4 0", 1);
        due.lines("12 1 0 -2 1 3 -5 7 8 -10 1 3 0", -1006);
        due.lines("12 1 0 -2 1 3 -4 1 6 -5 7 8 0", -1003);
        due.lines("12 1 0 -2 1 3 -5 7 8 0", 1);
        due.lines("13 d 2 5 0", 1);
        due.lines("13 1 0 -2 1 3 -5 7 8 0", -1000);
        due.lines("13 1 0 0", 1);
        due.reads("p cnf 3 2 2 3 0 2 -3 0", 2);
        due.lines("998 -1 2 0 0", 1);
        due.lines("999 1 0 0", -1000);
        due.lines("999 1 0 -998 0", -1001);
        due.lines("999 1 0 -998 1 2 0", 1);
    }

    private static void knownBeforeTheFirst() {
        due.sentence("CHECKING", "For each group, beginning from what was known before the first one");
        due.reads("p cnf 4 8 -1 2 0 -1 3 0 2 3 0 2 -3 0 -2 3 0 1 4 0 -4 2 0 -4 3 0", 8);
        due.lines("9 1 0 -1 3 4 -2 3 0", -1005);
        due.lines("9 1 0 -1 3 4 -2 0", -1004);
        due.lines("9 1 0 -1 3 4 -2 4 0", -1004);
        due.lines("9 1 0 -1 6 7 -2 8 0", -1005);
        due.lines("9 1 0 -1 3 4 -2 3 5 0", 1);
        due.lines("10 1 0 -1 6 7 -2 6 8 0", 1);
    }

    private static void knownFromHintsBefore() {
        due.sentence("CHECKING", "beginning from what was known before the first one");
        due.reads("p cnf 5 8 -1 2 0 -1 3 0 2 3 0 2 -3 0 -2 3 0 1 4 0 -4 2 0 -4 3 0", 8);
        due.lines("9 1 0 6 -1 7 -2 8 0", 1);
        due.lines("10 1 0 6 -1 6 7 -2 8 0", -1002);
        due.lines("10 1 0 6 -1 7 -2 6 8 0", -1004);
        due.lines("10 1 -4 0 6 -1 7 -2 8 0", -1000);
        due.lines("10 1 -4 0 -1 7 -2 8 0", 1);
    }

    private static void groupHoldsAtOnce() {
        due.sentence("CHECKING", "(if one is known to be true, the group holds at once)");
        due.reads("p cnf 4 3 -1 2 0 -1 3 4 0 1 3 0", 3);
        due.lines("4 1 -2 0 -1 -2 3 0", 1);
        due.lines("5 1 -2 0 -1 99 98 3 3 -2 3 0", 1);
        due.lines("6 1 -2 0 3 -1 99 -2 99 0", 1);
        due.lines("7 1 -2 -3 0 -1 -2 0", 1);
        due.lines("8 1 -2 -4 0 -1 -2 0", 1);
        due.holds(8, 1, -2, -4);
    }

    private static void groupAtOnceStillDue() {
        due.sentence("CHECKING", "must have its group");
        due.reads("p cnf 4 3 -1 2 0 -1 3 4 0 1 3 0", 3);
        due.lines("4 1 -2 0 -2 3 0", -1000);
        due.lines("4 1 -2 0 -1 0", -1001);
        due.lines("4 1 -2 0 -1 9 9 0", -1003);
        due.lines("4 1 -2 -3 0 -2 -1 0", -1000);
        due.lines("4 1 -2 -3 0 0", -1000);
        due.lines("4 1 -2 -3 0 -1 -2 -3 0", -1002);
    }

    private static void groupNotAtOnce() {
        due.sentence("CHECKING", "the other literals of its clause are taken as false");
        due.reads("p cnf 4 4 -1 2 0 -1 3 4 0 3 4 0 2 0", 4);
        due.lines("5 1 -3 0 -1 -2 0", -1001);
        due.lines("5 1 -2 0 -1 -2 0", -1002);
        due.lines("5 1 2 0 -1 -2 3 0", -1001);
        due.lines("5 1 0 -1 4 -2 4 0", -1004);
        due.lines("5 1 0 -1 4 -2 3 0", 1);
    }

    private static void groupWithFirstLiteral() {
        due.sentence("CHECKING", "the other literals of its clause");
        due.reads("p cnf 2 1 1 -1 0", 1);
        due.lines("2 1 0 0", -1000);
        due.lines("2 1 0 -1 0", -1001);
        due.lines("2 1 0 -1 1 0", -1001);
        due.reads("p cnf 2 1 -1 0", 1);
        due.lines("2 1 0 -1 0", -1001);
        due.lines("2 1 0 1 0", -1000);
        due.lines("2 1 0 -1 1 0", -1001);
    }

    private static void groupHintFails() {
        due.sentence("promise 11", "k being the place (from 0, of all hints) of the hint at which it does");
        due.reads(THREE, 8);
        due.lines("9 1 0 -2 99 -4 1 6 -5 7 8 0", -1001);
        due.lines("9 1 0 -2 1 99 -4 1 6 -5 7 8 0", -1002);
        due.lines("9 1 0 -2 1 1 3 -4 1 6 -5 7 8 0", -1002);
        due.lines("9 1 0 -2 8 3 -4 1 6 -5 7 8 0", -1001);
        due.lines("9 1 0 -2 1 3 -4 5 6 -5 7 8 0", -1004);
        due.lines("9 1 0 -2 1 3 -4 1 9 -5 7 8 0", -1005);
        due.lines("9 1 0 -2 1 3 -4 1 6 -5 1 0", -1007);
        due.lines("9 1 0 -2 1 3 99 99 -4 1 6 -5 7 9 0", -1010);
        due.lines("9 1 0 -2 2 0", -1001);
    }

    private static void groupWithoutConflict() {
        due.sentence("CHECKING", "then its hints go on as above, up to a conflict; without one the step"
                + " fails");
        due.reads(THREE, 8);
        due.lines("9 1 0 -2 -4 1 6 -5 7 8 0", -1001);
        due.lines("9 1 0 -2 1 -4 1 6 -5 7 8 0", -1002);
        due.lines("9 1 0 -2 1 3 -4 1 -5 7 8 0", -1005);
        due.lines("9 1 0 -2 1 3 -4 1 6 -5 0", -1007);
        due.lines("9 1 0 -2 1 3 -4 1 6 -5 7 0", -1008);
        due.lines("9 1 0 -2 0", -1001);
        due.lines("9 1 0 -2 1 0", -1002);
    }

    private static void groupBehindConflict() {
        due.sentence("CHECKING", "hints behind it count for nothing");
        due.reads(THREE, 8);
        due.lines("9 1 0 -2 1 3 99 -4 1 6 9 -5 7 8 5 0", 1);
        due.lines("10 1 0 -2 1 3 1 -4 1 6 1 -5 7 8 7 0", 1);
        due.lines("11 1 0 -2 1 3 99 -4 1 6 99 -9 7 8 0", -1008);
    }

    private static void hintBeforeGroupsFails() {
        due.sentence("CHECKING", "The hints before the first group, in order");
        due.reads(THREE, 8);
        due.lines("9 1 0 1 -2 1 3 -4 1 6 -5 7 8 0", -1000);
        due.lines("9 1 0 99 -2 1 3 -4 1 6 -5 7 8 0", -1000);
        due.lines("9 1 -2 0 6 7 -2 -4 -5 8 0", -1001);
        due.lines("9 1 -2 0 6 8 -2 -4 -5 8 0", 1);
        due.lines("10 1 -2 0 8 6 -2 -4 -5 0", 1);
        due.lines("11 1 -2 0 8 6 0", -1002);
    }

    private static void lastPlace() {
        due.sentence("promise 11", "the number of hints if there is none");
        due.reads("p cnf 2 13" + " -1 2 0".repeat(13), 13);
        due.lines("14 1 -2 0 -1 -2 -3 -4 -5 -6 -7 -8 -9 -10 -11 -12 0", -1012);
        due.lines("14 1 -2 0 -1 -2 -3 -4 -5 -6 -7 -8 -9 -10 -11 -13 0", -1011);
        due.lines("14 1 0 -1 -2 -3 -4 -5 -6 -7 -8 -9 -10 -11 -12 0", -1001);
        due.lines("14 d 13 0", 1);
        due.lines("14 1 -2 0 -1 -2 -3 -4 -5 -6 -7 -8 -9 -10 -11 9 0", -1012);
        due.lines("14 1 -2 0 -1 -2 -3 -4 -5 -6 -7 -8 -9 -10 -11 -12 0", 1);
        due.reads(THREE, 8);
        due.lines("9 1 0 -2 1 3 99 99 99 -4 1 6 99 -5 7 0", -1012);
        due.lines("9 1 0 -2 1 3 99 99 99 -4 1 6 99 -5 9 0", -1011);
        due.lines("9 1 0 -2 1 3 99 99 -4 1 6 99 -5 7 8 0", 1);
    }

    private static void failureChangesNothing() {
        due.sentence("promise 11", "-1000 - k if it fails");
        due.reads("p cnf 4 4 -1 2 0 -1 3 4 0 1 3 0 2 0", 4);
        String before = due.seen();
        due.lines("5 0 4 0", -1001);
        due.lines("9 1 0 9 0", -1000);
        due.lines("5 1 -2 0 3 -1 0", -1002);
        due.lines("5 1 0 -1 4 -2 9 0", -1003);
        due.lines("5 1 0 0", -1000);
        due.expect("all is as before", due.seen().equals(before));
        due.lines("5 1 0 3 -1 4 -2 0", 1);
        due.same("live", due.court.live(), 5);
    }
}
