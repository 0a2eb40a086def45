/** Promise 11, the texts of lines and those that are refused: each edge, with objects of its own. */
public final class LineEdgesTest {
    private static final Due due = new Due();
    private static final String ADDS = "2 1 -2 0 1 -1 0";
    private static final String DELETES = "2 d 1 2 0";

    public static void main(String[] args) {
        ownNumber();
        ownNumberOfDeletes();
        deletedNumbers();
        deletedAtMost();
        hintNumbers();
        hintsAtMost();
        literals();
        literalTwice();
        literalTooMany();
        behindTheLast();
        wordsAlone();
        blanks();
        wrongWords();
        missing();
        fullText();
        faultChangesNothing();
        nothingTyped();
        faultFirst();
        deletes();
        deletesNone();
        numberNotAbove();
        numberOfDeleted();
        numberOfFailed();
        numberOfTheFormula();
        deletedNotLive();
        deletedTwice();
        liveAtMost();
        liveAtMostOfTheProof();
        noStepChecked();
        due.end();
    }

    private static void ownNumber() {
        due.sentence("promise 11", "adds a clause with that number (1 .. 999)");
        due.reads("p cnf 1 0", 0);
        String[] wrong = {"0", "-1", "-999", "1000", "1001", "9999", "-0001", "00001", "01000", "x", "-",
            "1x", "+1", "d", "c", "p"};
        for (String number : wrong) {
            due.lines(number + " 1 -1 0 0", -1);
        }
        due.same("live", due.court.live(), 0);
        due.lines("1 1 -1 0 0", 1);
        due.lines("0002 1 -1 0 0", 1);
        due.lines("998 1 -1 0 0", 1);
        due.lines("999 -1 1 0 0", 1);
        due.holds(2, 1, -1);
        due.holds(999, -1, 1);
        due.same("live", due.court.live(), 4);
        due.lines("1000 1 -1 0 0", -1);
        due.fresh();
        due.reads("p cnf 1 0", 0);
        due.lines("0999 1 -1 0 0", 1);
        due.holds(999, 1, -1);
    }

    private static void ownNumberOfDeletes() {
        due.sentence("promise 11", "the line's own number, 1 .. 999, counts for nothing");
        due.reads("p cnf 1 6" + " 1 0".repeat(6), 6);
        for (String number : new String[] {"0", "-1", "1000", "9999", "00001", "x", "d"}) {
            due.lines(number + " d 1 0", -1);
        }
        due.same("live", due.court.live(), 6);
        due.lines("1 d 1 0", 1);
        due.lines("1 d 2 0", 1);
        due.lines("999 d 3 0", 1);
        due.lines("4 d 5 0", 1);
        due.holds(4, 1);
        due.lines("6 d 6 0", 1);
        due.same("live", due.court.live(), 1);
        due.lines("7 1 0 4 0", 1);
        due.lines("999 d 0", 1);
        due.lines("8 1 0 4 0", 1);
    }

    private static void deletedNumbers() {
        due.sentence("promise 11", "deletes the clauses with these numbers, at most 12, 1 .. 999");
        due.reads("p cnf 1 2 1 0 -1 0", 2);
        for (String number : new String[] {"-1", "-2", "-999", "1000", "9999", "00001", "x", "d", "1x"}) {
            due.lines("3 d " + number + " 0", -5);
            due.lines("3 d 1 " + number + " 0", -7);
        }
        due.same("live", due.court.live(), 2);
        due.lines("3 d 999 0", -2000);
        due.lines("999 1 -1 0 0", 1);
        due.lines("3 d 999 0", 1);
        due.lines("3 d 0001 0", 1);
        due.holds(1);
        due.same("live", due.court.live(), 1);
    }

    private static void deletedAtMost() {
        due.sentence("promise 11", "these numbers, at most 12");
        String head = "p cnf 1 14" + " 1 0".repeat(14);
        due.reads(head, 14);
        due.lines("9 d 1 2 3 4 5 6 7 8 9 10 11 12 13 0", -32);
        due.lines("9 d 1 2 3 4 5 6 7 8 9 10 11 12 13 14 0", -32);
        due.lines("9 d 1 2 3 4 5 6 7 8 9 10 11 12 x", -32);
        due.lines("9 d 1 2 3 4 5 6 7 8 9 10 11 12", -31);
        due.lines("9 d 1 1 1 1 1 1 1 1 1 1 1 1 1 0", -29);
        due.same("live", due.court.live(), 14);
        due.lines("9 d 14 13 12 11 10 9 8 7 6 5 4 3 0", 1);
        due.same("live", due.court.live(), 2);
        due.holds(2, 1);
        due.reads(head, 14);
        due.lines("9 d 1 2 3 4 5 6 7 8 9 10 11 0", 1);
        due.same("live", due.court.live(), 3);
    }

    private static void hintNumbers() {
        due.sentence("promise 11", "numbers -999 .. 999 other than 0");
        due.reads("p cnf 1 2 1 0 -1 0", 2);
        for (String number : new String[] {"1000", "-1000", "9999", "-9999", "00001", "x", "d", "-", "1-"}) {
            due.lines("3 1 0 " + number + " 0", -7);
            due.lines("3 1 0 1 " + number + " 0", -9);
        }
        due.lines("3 1 0 999 0", -1000);
        due.lines("3 1 0 -999 0", -1000);
        due.lines("3 1 0 1 999 -999 0", 1);
        due.lines("4 1 0 0001 -0999 0", 1);
        due.lines("999 1 0 1 0", 1);
        due.fresh();
        due.reads("p cnf 1 0", 0);
        due.lines("998 1 0 0", 1);
        due.lines("999 1 0 998 0", 1);
    }

    private static void hintsAtMost() {
        due.sentence("promise 11", "the hints are at most 12 numbers");
        due.reads("p cnf 1 1 1 0", 1);
        due.lines("2 1 0 1 2 3 4 5 6 7 8 9 10 11 12 0", 1);
        due.lines("3 1 0 1 2 3 4 5 6 7 8 9 10 11 12 13 0", -34);
        due.lines("3 1 0 1 2 3 4 5 6 7 8 9 10 11 12 -13 0", -34);
        due.lines("3 1 0 1 1 1 1 1 1 1 1 1 1 1 1 1 1 0", -31);
        due.lines("3 1 0 -1 -1 -1 -1 -1 -1 -1 -1 -1 -1 -1 -1 -1 0", -43);
        due.lines("3 1 0 1 2 3 4 5 6 7 8 9 10 11 12 x", -34);
        due.lines("3 1 0 1 2 3 4 5 6 7 8 9 10 11 12", -33);
        due.lines("3 -1 1 0 1 1 1 1 1 1 1 1 1 1 1 1 1 0", -34);
        due.same("live", due.court.live(), 2);
        due.reads("p cnf 10 12 1 0 -1 2 0 -2 3 0 -3 4 0 -4 5 0 -5 6 0 -6 7 0 -7 8 0 -8 9 0 -9 10 0"
                + " -10 1 0 -10 -1 0", 12);
        due.lines("13 0 1 2 3 4 5 6 7 8 9 10 12 0", 1);
        due.lines("14 0 1 2 3 4 5 6 7 8 9 10 11 12 0", -1010);
    }

    private static void literals() {
        due.sentence("promise 11", "the literals are as above");
        for (int v = 1; v <= 10; v++) {
            due.fresh();
            due.reads("p cnf " + v + " 0", 0);
            due.lines("1 " + (v + 1) + " 0 0", -3);
            due.lines("1 " + (-v - 1) + " 0 0", -3);
            due.lines("1 1 " + (v + 1) + " 0 0", -5);
            due.lines("1 9999 0 0", -3);
            due.lines("1 00001 0 0", -3);
            due.lines("1 " + v + " " + -v + " 0 0", 1);
            due.holds(1, v, -v);
            due.lines("2 " + -v + " " + v + " 0 0", 1);
            due.holds(2, -v, v);
        }
        due.reads("p cnf 2 0", 0);
        due.lines("1 10 -10 0 0", -3);
    }

    private static void literalTwice() {
        due.sentence("promise 11", "A literal that stands twice in a clause counts once");
        due.reads("p cnf 10 2 -1 2 0 1 2 0", 2);
        due.lines("3 2 2 2 0 2 1 0", 1);
        due.holds(3, 2);
        due.lines("4 10 9 8 7 6 -5 10 9 8 7 6 -5 0 0", 1);
        due.holds(4, 10, 9, 8, 7, 6, -5);
        due.lines("5 2 1 2 1 0 2 0", 1);
        due.holds(5, 2, 1);
    }

    private static void literalTooMany() {
        due.sentence("promise 11", "more than 6 are too many ... (a literal too many: at that one)");
        due.reads("p cnf 10 0", 0);
        due.lines("1 1 2 3 4 5 6 0 0", 1);
        due.lines("2 1 2 3 4 5 6 7 0 0", -15);
        due.lines("2 1 2 3 4 5 6 1 6 7 x", -19);
        due.lines("2 1 2 3 4 5 6 -1 0 0", -15);
        due.lines("2 1 -1 2 -2 3 -3 10 0 0", -18);
        due.same("live", due.court.live(), 1);
        due.lines("2 1 -1 2 -2 3 -3 3 0 0", 1);
        due.holds(2, 1, -1, 2, -2, 3, -3);
    }

    private static void behindTheLast() {
        due.sentence("promise 11", "Nothing stands behind the last 0.");
        for (String word : new String[] {"0", "1", "-1", "3", "d", "c", "x", "p", "00"}) {
            due.fresh();
            due.reads("p cnf 2 2 1 0 2 0", 2);
            due.lines("3 1 0 1 0 " + word, -11);
            due.lines("3 1 0 1 0\n" + word + " x", -11);
            due.lines("3 1 0 0 " + word, -9);
            due.lines("3 d 1 0 " + word, -9);
            due.lines("3 d 0 " + word, -7);
            due.lines("3 d 1 0  \n" + word + " 0", -11);
            due.same("live", due.court.live(), 2);
            due.lines("3 1 0 1 0 \n ", 1);
            due.lines("4 d 3 0\n\n", 1);
        }
    }

    private static void wordsAlone() {
        due.sentence("promise 11", "A LINE of a proof is a text of words alone");
        due.reads("p cnf 2 2 1 0 2 0", 2);
        due.lines("c\n3 1 0 1 0", -1);
        due.lines("c x\n3 d 1 0", -1);
        due.lines("3\nc\n1 0 1 0", -3);
        due.lines("3 1\nc\n0 1 0", -5);
        due.lines("3 1 0\nc\n1 0", -7);
        due.lines("3 1 0 1\nc\n0", -9);
        due.lines("3 1 0 1 0\nc", -11);
        due.lines("3\nc\nd 1 0", -3);
        due.lines("3 d\nc\n1 0", -5);
        due.lines("3 d 1\nc\n0", -7);
        due.lines("3 d 1 0\nc x", -9);
        due.same("live", due.court.live(), 2);
    }

    private static void blanks() {
        due.sentence("promise 11", "Between words are spaces and line ends.");
        for (String blank : new String[] {" ", "\n", "   ", "\n\n", " \n ", "\n \n"}) {
            due.fresh();
            due.reads("p cnf 2 2 1 0 -2 1 0", 2);
            due.lines("3 1 -2 0 2 -9 0".replace(" ", blank), 1);
            due.lines(blank + "4 1 -2 0 2 -9 0".replace(" ", blank) + blank, 1);
            due.holds(4, 1, -2);
            due.lines("1 d 3 2 0".replace(" ", blank), 1);
            due.lines(blank + "1 d 4 0".replace(" ", blank) + blank, 1);
            due.same("live", due.court.live(), 1);
        }
    }

    private static void wrongWords() {
        due.sentence("promise 11", "-1 - p if it is faulty at p");
        for (String word : new String[] {"x", "p", "c", "D", "dd", "1000", "-1000", "00000", "-", "1."}) {
            due.fresh();
            due.reads("p cnf 2 1 1 0", 1);
            wrongWordIn(ADDS, word);
            due.fresh();
            due.reads("p cnf 2 1 1 0", 1);
            wrongWordIn(DELETES, word);
        }
        due.fresh();
        due.reads("p cnf 2 1 1 0", 1);
        due.lines("2 1 d 0", -5);
        due.lines("2 d d 0", -5);
        due.lines("2 2 d 1 0", -5);
        due.lines("d 2 1 0", -1);
        due.lines("2 1 0 d 1 0", -7);
        due.lines("2d 1 0", -1);
        due.lines("2 d1 0", -3);
    }

    private static void wrongWordIn(String line, String wrong) {
        String[] words = line.split(" ");
        for (int i = 0; i < words.length; i++) {
            String before = i == 0 ? "" : joined(words, i) + " ";
            due.lines(before + wrong + line.substring(joined(words, i + 1).length()), -1 - before.length());
        }
    }

    private static void missing() {
        due.sentence("promise 11", "if something is missing, at its length");
        for (String line : new String[] {ADDS, DELETES, "2 0 0", "2 d 0"}) {
            String[] words = line.split(" ");
            due.fresh();
            due.reads("p cnf 2 1 1 0", 1);
            for (String blank : new String[] {"", " ", "\n", " \n  "}) {
                for (int size = 0; size < words.length; size++) {
                    String text = joined(words, size) + blank;
                    due.lines(text, -1 - text.length());
                }
            }
        }
    }

    private static void fullText() {
        due.sentence("promise 11", "at its length");
        due.reads("p cnf 1 1 1 0", 1);
        due.lines("2 1 0 1" + " ".repeat(152) + "0", 1);
        due.lines("3 1 0 1" + " ".repeat(152) + "1", -161);
        due.lines("3 1 0 1" + " ".repeat(152) + "x", -160);
        due.lines("3 1 0 1 0" + " ".repeat(150) + "0", -160);
        due.lines("3 d 2" + " ".repeat(154) + "0", 1);
        due.lines("x".repeat(160), -1);
        due.lines("3" + " 1".repeat(79) + " ", -161);
    }

    private static void faultChangesNothing() {
        due.sentence("promise 11", "-1 - p if it is faulty at p");
        due.reads("p cnf 2 2 1 0 -1 0", 2);
        due.lines("3 2 0 1 2 0", 1);
        String before = due.seen();
        due.lines("4 0 1 2 0 x", -11);
        due.lines("9 2 -2 0 0 x", -12);
        due.lines("4 d 1 0 x", -9);
        due.lines("4 d 1 2 3", -10);
        due.lines("4 d 1 2 x 0", -9);
        due.expect("all is as before", due.seen().equals(before));
        due.lines("4 0 1 2 0", 1);
    }

    private static void nothingTyped() {
        due.sentence("promise 11", "nothing is typed then");
        due.reads("p cnf 2 2 1 0 -1 0", 2);
        String[] told = {"3 1 0 1 0", "4 d 3 0", "4 x", "4 2 0 1", "4 0 1 0", "1 1 0 1 0", "4 d 9 0", ""};
        int[] want = {1, 1, -3, -8, -1001, -2000, -2000, -1};
        for (int i = 0; i < told.length; i++) {
            due.lines(told[i], want[i]);
            due.same("line behind " + told[i], due.court.line(), -1);
            due.same("read behind " + told[i], due.court.read(), -1);
        }
        due.lines(" ".repeat(160), -161);
        due.lines(" ".repeat(160), -161);
    }

    private static void faultFirst() {
        due.sentence("promise 11", "-1 - p if it is faulty at p; -1000 - k if it fails ... -2000");
        due.reads("p cnf 2 2 1 0 2 0", 2);
        due.lines("1 1 0 1 0 x", -11);
        due.lines("2 0 9 x", -7);
        due.lines("3 0 9 9 9", -10);
        due.lines("3 d 9 9 x", -9);
        due.lines("3 d 1 1", -8);
        due.lines("3 d 1 1 0 0", -11);
    }

    private static void deletes() {
        due.sentence("promise 11", "1 if it holds, or deletes");
        due.reads("p cnf 2 4 1 0 2 0 -1 0 1 2 0", 4);
        due.lines("5 1 2 0 1 0", 1);
        due.lines("1 d 2 5 1 0", 1);
        due.same("live", due.court.live(), 2);
        due.holds(1);
        due.holds(2);
        due.holds(3, -1);
        due.holds(4, 1, 2);
        due.holds(5);
        due.lines("1 d 4 0", 1);
        due.lines("1 d 3 0", 1);
        due.same("live", due.court.live(), 0);
    }

    private static void deletesNone() {
        due.sentence("promise 11", "number d numbers 0");
        due.lines("1 d 0", 1);
        due.reads("p cnf 1 1 1 0", 1);
        due.lines("1 d 0", 1);
        due.lines("999 d 00", 1);
        due.same("live", due.court.live(), 1);
    }

    private static void numberNotAbove() {
        due.sentence("promise 11", "-2000 if its number is not above all that were there");
        due.reads("p cnf 1 3 1 0 1 0 1 0", 3);
        for (int number = 1; number <= 3; number++) {
            due.lines(number + " 1 0 1 0", -2000);
        }
        due.lines("4 1 0 1 0", 1);
        due.lines("4 1 0 1 0", -2000);
        due.lines("9 1 0 1 0", 1);
        for (int number = 1; number <= 9; number++) {
            due.lines(number + " 1 0 1 0", -2000);
        }
        due.same("live", due.court.live(), 5);
        due.holds(5);
        due.lines("10 1 0 1 0", 1);
        due.lines("999 1 0 1 0", 1);
        due.lines("998 1 0 1 0", -2000);
        due.lines("999 1 0 1 0", -2000);
        due.same("live", due.court.live(), 7);
    }

    private static void numberOfDeleted() {
        due.sentence("promise 11", "above all that were there");
        due.reads("p cnf 1 2 1 0 1 0", 2);
        due.lines("3 d 2 0", 1);
        due.lines("2 1 0 1 0", -2000);
        due.lines("3 1 0 1 0", 1);
        due.lines("7 1 0 1 0", 1);
        due.lines("8 d 7 3 0", 1);
        due.lines("3 1 0 1 0", -2000);
        due.lines("7 1 0 1 0", -2000);
        due.lines("5 1 0 1 0", -2000);
        due.lines("8 d 1 0", 1);
        due.same("live", due.court.live(), 0);
        due.lines("7 1 -1 0 0", -2000);
        due.lines("8 1 -1 0 0", 1);
    }

    private static void numberOfFailed() {
        due.sentence("promise 11", "above all that were there (of lines that add)");
        due.reads("p cnf 2 2 1 0 -1 2 0", 2);
        due.lines("9 0 1 0", -1001);
        due.lines("8 -1 0 0", -1000);
        due.lines("9 d 9 0", -2000);
        due.lines("8 d 8 0", -2000);
        due.lines("7 d 0", 1);
        due.lines("7 x", -3);
        due.lines("3 2 0 1 2 0", 1);
        due.lines("3 2 0 1 2 0", -2000);
        due.lines("4 2 0 1 2 0", 1);
    }

    private static void numberOfTheFormula() {
        due.sentence("promise 11", "The formula's clauses have the numbers 1 .. C.");
        for (int c = 0; c <= 24; c += 6) {
            due.fresh();
            due.reads("p cnf 1 " + c + " 1 0".repeat(c), c);
            due.lines(Math.max(1, c) + " 1 -1 0 0", c == 0 ? 1 : -2000);
            due.lines(c + 1 + " 1 -1 0 0", c == 0 ? -2000 : 1);
            due.holds(c + 1, 1, -1);
        }
        due.reads("p cnf 1 1 1 0", 1);
        due.lines("2 1 -1 0 0", 1);
        due.reads("p cnf 1 x", -9);
        due.lines("2 1 -1 0 0", -2000);
    }

    private static void deletedNotLive() {
        due.sentence("promise 11", "a number that it deletes is not live");
        due.reads("p cnf 1 4 1 0 1 0 1 0 1 0", 4);
        due.lines("6 1 0 1 0", 1);
        due.lines("7 d 3 0", 1);
        for (String numbers : new String[] {"3", "5", "7", "999", "1 3", "3 1", "1 2 4 6 5", "40", "41"}) {
            due.lines("7 d " + numbers + " 0", -2000);
            due.same("live", due.court.live(), 4);
        }
        due.holds(1, 1);
        due.holds(2, 1);
        due.holds(4, 1);
        due.holds(6, 1);
        due.lines("7 d 1 2 4 6 0", 1);
        due.lines("7 d 6 0", -2000);
        due.lines("7 d 1 0", -2000);
    }

    private static void deletedTwice() {
        due.sentence("promise 11", "(or stands twice)");
        due.reads("p cnf 1 3 1 0 1 0 1 0", 3);
        for (String numbers : new String[] {"1 1", "1 2 1", "3 2 2", "1 2 3 3", "1 01", "2 2 2"}) {
            due.lines("4 d " + numbers + " 0", -2000);
            due.same("live", due.court.live(), 3);
        }
        due.lines("4 d 1 2 3 0", 1);
    }

    private static void liveAtMost() {
        due.sentence("promise 11", "or there would be more than 40 live clauses");
        due.reads("p cnf 1 24" + " 1 0".repeat(24), 24);
        for (int number = 25; number <= 40; number++) {
            due.lines(number + " 1 0 1 0", 1);
        }
        due.lines("41 1 0 1 0", -2000);
        due.lines("41 1 -1 0 0", -2000);
        due.lines("999 1 0 1 0", -2000);
        due.lines("41 d 0", 1);
        due.lines("41 1 0 1 0", -2000);
        due.same("live", due.court.live(), 40);
        due.holds(41);
        due.lines("41 d 24 0", 1);
        due.lines("41 1 0 1 0", 1);
        due.lines("42 1 0 1 0", -2000);
        due.lines("42 d 41 2 0", 1);
        due.lines("42 1 0 1 0", 1);
        due.lines("43 1 0 1 0", 1);
        due.lines("44 1 0 1 0", -2000);
        due.same("live", due.court.live(), 40);
    }

    private static void liveAtMostOfTheProof() {
        due.sentence("promise 11", "at most 40 are live at once");
        due.reads("p cnf 1 0", 0);
        for (int number = 1; number <= 40; number++) {
            due.lines(number + " 1 0 0", 1);
        }
        due.lines("41 1 0 0", -2000);
        due.same("live", due.court.live(), 40);
        due.holds(40, 1);
        due.reads("p cnf 1 1 1 0", 1);
        due.lines("2 1 0 1 0", 1);
        due.same("live", due.court.live(), 2);
    }

    private static void noStepChecked() {
        due.sentence("promise 11", "in these cases nothing is added or deleted, and no step is checked");
        due.reads("p cnf 1 24" + " 1 0".repeat(24), 24);
        due.lines("24 0 99 0", -2000);
        due.lines("1 -1 0 -5 9 0", -2000);
        due.lines("24 1 0 1 0", -2000);
        due.lines("25 0 99 0", -1000);
        for (int number = 25; number <= 40; number++) {
            due.lines(number + " 1 0 1 0", 1);
        }
        due.lines("41 0 99 0", -2000);
        due.lines("41 -1 0 -99 0", -2000);
        due.lines("40 0 99 0", -2000);
        due.same("live", due.court.live(), 40);
        due.same("refuted", due.court.refuted(), false);
        due.lines("41 d 1 99 0", -2000);
        due.holds(1, 1);
    }

    private static String joined(String[] words, int size) {
        StringBuilder text = new StringBuilder();
        for (int i = 0; i < size; i++) {
            text.append(i == 0 ? "" : " ").append(words[i]);
        }
        return text.toString();
    }
}
