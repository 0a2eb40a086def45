import java.util.ArrayList;
import java.util.Collections;
import java.util.HashSet;
import java.util.List;
import java.util.Random;
import java.util.Set;
import java.util.TreeMap;
import java.util.TreeSet;

/** Runs drawn from fixed seeds, each call held against a plain second reading of the document. */
public final class OracleTest {
    private static final int RUNS = 6000;
    // A formula or a line with all that is asked behind it takes fewer calls than this.
    private static final int DEAREST = 200;

    private final Random random;
    private final Due due;
    private final Model model = new Model();

    private OracleTest(int seed, Due due) {
        random = new Random(seed);
        this.due = due;
        due.section("seed " + seed);
    }

    public static void main(String[] args) {
        Due due = new Due();
        TreeMap<String, Integer> seen = new TreeMap<>();
        for (int seed = 0; seed < RUNS && !due.isWrong(); seed++) {
            new OracleTest(seed, due).run(seen);
        }
        System.out.println("lines by their outcome: " + seen);
        for (String kind : new String[] {"holds", "holds by groups", "deletes", "faulty", "fails", "refused"}) {
            due.expect("some line " + kind, seen.getOrDefault(kind, 0) > 100);
        }
        due.end();
    }

    private void run(TreeMap<String, Integer> seen) {
        if (random.nextInt(8) > 0) {
            readFormula();
        }
        while (due.callsLeft() > DEAREST) {
            int kind = random.nextInt(20);
            if (kind == 0) {
                readFormula();
            } else if (kind < 12) {
                tellLine(seen);
            } else {
                ask();
            }
        }
        while (due.callsLeft() > 0) {
            askLiteral();
        }
    }

    private void readFormula() {
        type(mutated(formulaText(), 6));
        String typed = model.typed.toString();
        due.same("read " + typed, due.court.read(), model.read());
        askAll();
    }

    private void tellLine(TreeMap<String, Integer> seen) {
        type(mutated(lineText(), 12));
        String typed = model.typed.toString();
        int want = model.line();
        due.same("line " + typed, due.court.line(), want);
        String outcome = want == -2000 ? "refused" : want <= -1000 ? "fails" : want < 0 ? "faulty"
                : typed.contains("d") ? "deletes" : model.usedGroups ? "holds by groups" : "holds";
        seen.merge(outcome, 1, Integer::sum);
        ask();
    }

    private void type(String text) {
        int at = 0;
        while (at < text.length()) {
            int n = Math.min(text.length() - at, random.nextInt(10) == 0 ? 1 + random.nextInt(4) : 4);
            typeWord(Due.word(text.substring(at, at + n)) | (n < 4 ? random.nextInt() << 8 * n : 0), n);
            at += n;
        }
        if (random.nextInt(40) == 0) {
            typeWord(random.nextInt(), random.nextInt(7) - 1);
        }
    }

    private void typeWord(int word, int n) {
        due.same("type " + word + " " + n, due.court.type(word, n), model.type(word, n));
    }

    private void ask() {
        due.same("live", due.court.live(), model.live.size());
        due.same("refuted", due.court.refuted(), model.refuted);
        askLiteral();
    }

    private void askLiteral() {
        int number = random.nextInt(5) == 0 ? random.nextInt(1002) - 1 : random.nextInt(40);
        int i = random.nextInt(9) - 1;
        due.same("literal " + number + " " + i, due.court.literal(number, i), model.literal(number, i));
    }

    private void askAll() {
        due.same("variables", due.court.variables(), model.variables);
        int[] order = {0, 1, 2, 3};
        int turn = random.nextInt(4);
        for (int k = 0; k < order.length; k++) {
            askFormula(order[(k + turn) % 4]);
        }
        for (int number : new ArrayList<>(model.live.keySet())) {
            for (int i = 0; i <= model.live.get(number).size(); i++) {
                due.same("literal " + number + " " + i, due.court.literal(number, i),
                        model.literal(number, i));
            }
        }
    }

    private void askFormula(int kind) {
        if (kind == 0) {
            due.same("solve", due.court.solve(), model.least() < 0 ? 0 : 1);
        } else if (kind == 1) {
            due.same("proves", due.court.proves(), model.least() < 0);
        } else if (kind == 2) {
            due.same("count", due.court.count(), model.count());
        } else {
            for (int v = -1; v <= 11; v++) {
                due.same("value " + v, due.court.value(v), model.value(v));
            }
            for (int k = 0; k < 8; k++) {
                int a = random.nextInt(2 * model.variables + 3) - model.variables - 1;
                int b = random.nextInt(2 * model.variables + 3) - model.variables - 1;
                due.same("forced " + a + " " + b, due.court.forced(a, b), model.forced(a, b));
            }
        }
    }

    private String formulaText() {
        int variables = 1 + random.nextInt(random.nextInt(3) == 0 ? 10 : 4);
        int width = 1 + random.nextInt(random.nextInt(4) == 0 ? 6 : 3);
        StringBuilder clauses = new StringBuilder();
        int size = 0;
        int wanted = random.nextInt(25);
        while (size < wanted) {
            String clause = blank() + clauseText(variables, width);
            if (clauses.length() + clause.length() > 145) {
                break;
            }
            clauses.append(clause);
            size++;
        }
        return "p cnf " + variables + " " + size + clauses;
    }

    private String clauseText(int variables, int width) {
        StringBuilder text = new StringBuilder();
        int literals = random.nextInt(30) == 0 ? 0 : 1 + random.nextInt(width);
        for (int i = 0; i < literals; i++) {
            text.append(anyLiteral(variables)).append(' ');
        }
        return text.append('0').toString();
    }

    private int anyLiteral(int variables) {
        int v = 1 + random.nextInt(Math.max(1, variables));
        return random.nextBoolean() ? v : -v;
    }

    private String blank() {
        int kind = random.nextInt(60);
        return kind == 0 ? "\nc x\n" : kind < 4 ? "\n" : kind == 4 ? "  " : " ";
    }

    private String lineText() {
        int number = model.highest + 1 + random.nextInt(2);
        if (random.nextInt(20) == 0) {
            number = random.nextInt(1002);
        }
        if (random.nextInt(6) == 0) {
            return number + " d" + deletedText() + " 0";
        }
        List<Integer> literals = new ArrayList<>();
        int width = random.nextInt(5);
        for (int i = 0; i < width; i++) {
            literals.add(anyLiteral(model.variables));
        }
        List<Integer> hints = usefulHints(literals);
        spoil(hints);
        return number + joined(literals) + " 0" + joined(hints) + " 0";
    }

    private String deletedText() {
        List<Integer> numbers = new ArrayList<>(model.live.keySet());
        Collections.shuffle(numbers, random);
        int size = Math.min(numbers.size(), random.nextInt(4));
        StringBuilder text = new StringBuilder(joined(numbers.subList(0, size)));
        if (random.nextInt(10) == 0) {
            text.append(' ').append(random.nextInt(45));
        }
        return text.toString();
    }

    private static String joined(List<Integer> numbers) {
        StringBuilder text = new StringBuilder();
        for (int number : numbers) {
            text.append(' ').append(number);
        }
        return text.toString();
    }

    /** Hints that often make the step hold. */
    private List<Integer> usefulHints(List<Integer> literals) {
        Set<Integer> known = new HashSet<>();
        for (int literal : literals) {
            known.add(-literal);
        }
        List<Integer> hints = new ArrayList<>();
        boolean conflict = random.nextInt(3) > 0 && gather(known, hints);
        if (conflict || literals.isEmpty()) {
            return hints;
        }
        for (int number : model.live.keySet()) {
            if (model.live.get(number).contains(-literals.get(0))) {
                hints.add(-number);
                Set<Integer> inGroup = new HashSet<>(known);
                for (int other : model.live.get(number)) {
                    if (other != -literals.get(0)) {
                        inGroup.add(-other);
                    }
                }
                gather(inGroup, hints);
            }
        }
        return hints;
    }

    private boolean gather(Set<Integer> known, List<Integer> hints) {
        List<Integer> numbers = new ArrayList<>(model.live.keySet());
        Collections.shuffle(numbers, random);
        for (int round = 0; round < 4; round++) {
            for (int number : numbers) {
                List<Integer> open = new ArrayList<>();
                for (int literal : model.live.get(number)) {
                    if (!known.contains(-literal)) {
                        open.add(literal);
                    }
                }
                if (open.isEmpty()) {
                    hints.add(number);
                    return true;
                }
                if (open.size() == 1 && !known.contains(open.get(0))) {
                    hints.add(number);
                    known.add(open.get(0));
                }
            }
        }
        return false;
    }

    private void spoil(List<Integer> hints) {
        if (hints.isEmpty() || random.nextInt(4) > 0) {
            return;
        }
        int at = random.nextInt(hints.size());
        int kind = random.nextInt(4);
        if (kind == 0) {
            hints.remove(at);
        } else if (kind == 1) {
            hints.set(at, -hints.get(at));
        } else if (kind == 2) {
            hints.add(at, random.nextInt(61) - 30);
        } else {
            hints.add(at, hints.get(random.nextInt(hints.size())));
        }
    }

    private String mutated(String text, int oneOf) {
        if (text.isEmpty() || random.nextInt(oneOf) > 0) {
            return text;
        }
        String[] parts = {" ", "\n", "c", "\nc ", "0", "-", " 0 ", " 1 ", "d", "x", "00", " -0 ", "12345", "p"};
        int from = random.nextInt(text.length() + 1);
        int to = Math.min(text.length(), from + random.nextInt(3));
        return text.substring(0, from) + parts[random.nextInt(parts.length)] + text.substring(to);
    }

    /** The document, read as plainly as can be. */
    private static final class Model {
        private final StringBuilder typed = new StringBuilder();
        private int variables;
        private List<List<Integer>> formula = new ArrayList<>();
        private final TreeMap<Integer, List<Integer>> live = new TreeMap<>();
        private int highest;
        private boolean refuted;
        private boolean usedGroups;
        private List<String> words;
        private List<Integer> places;
        private int at;

        boolean type(int word, int n) {
            if (n < 1 || n > 4 || typed.length() + n > 160) {
                return false;
            }
            StringBuilder more = new StringBuilder();
            for (int i = n - 1; i >= 0; i--) {
                int code = word >>> 8 * i & 0xff;
                if (code != 10 && (code < 32 || code > 126)) {
                    return false;
                }
                more.append((char) code);
            }
            typed.append(more);
            return true;
        }

        int read() {
            String text = typed.toString();
            typed.setLength(0);
            split(text, true);
            int[] size = new int[1];
            List<List<Integer>> clauses = new ArrayList<>();
            if (!formulaFits(size, clauses)) {
                return -1 - places.get(at);
            }
            variables = size[0];
            formula = clauses;
            live.clear();
            for (List<Integer> clause : clauses) {
                live.put(live.size() + 1, clause);
            }
            highest = clauses.size();
            refuted = false;
            return clauses.size();
        }

        private boolean formulaFits(int[] size, List<List<Integer>> clauses) {
            if (!words.get(at).equals("p")) {
                return false;
            }
            at++;
            if (!words.get(at).equals("cnf")) {
                return false;
            }
            at++;
            Integer v = number(1, 10);
            if (v == null) {
                return false;
            }
            at++;
            Integer c = number(0, 24);
            if (c == null) {
                return false;
            }
            at++;
            for (int i = 0; i < c; i++) {
                List<Integer> clause = new ArrayList<>();
                if (!clauseFits(v, clause)) {
                    return false;
                }
                clauses.add(clause);
            }
            size[0] = v;
            return words.get(at).isEmpty();
        }

        private boolean clauseFits(int v, List<Integer> clause) {
            Integer literal = number(-v, v);
            while (literal != null && literal != 0) {
                if (!clause.contains(literal)) {
                    if (clause.size() == 6) {
                        return false;
                    }
                    clause.add(literal);
                }
                at++;
                literal = number(-v, v);
            }
            if (literal == null) {
                return false;
            }
            at++;
            return true;
        }

        private boolean numbersFit(int low, List<Integer> numbers) {
            Integer number = number(low, 999);
            while (number != null && number != 0) {
                if (numbers.size() == 12) {
                    return false;
                }
                numbers.add(number);
                at++;
                number = number(low, 999);
            }
            if (number == null) {
                return false;
            }
            at++;
            return words.get(at).isEmpty();
        }

        /** The words with their places, and an empty one at the text's length. */
        private void split(String text, boolean remarks) {
            words = new ArrayList<>();
            places = new ArrayList<>();
            at = 0;
            int lineStart = 0;
            for (String line : text.split("\n", -1)) {
                if (!remarks || !line.matches(" *c( .*)?")) {
                    splitLine(line, lineStart);
                }
                lineStart += line.length() + 1;
            }
            words.add("");
            places.add(text.length());
        }

        private void splitLine(String line, int lineStart) {
            int i = 0;
            while (i < line.length()) {
                int end = line.indexOf(' ', i);
                end = end < 0 ? line.length() : end;
                if (end > i) {
                    words.add(line.substring(i, end));
                    places.add(lineStart + i);
                }
                i = end + 1;
            }
        }

        private Integer number(int low, int high) {
            if (!words.get(at).matches("-?[0-9]{1,4}")) {
                return null;
            }
            int number = Integer.parseInt(words.get(at));
            return number < low || number > high ? null : number;
        }

        int literal(int number, int i) {
            List<Integer> clause = live.get(number);
            return clause == null || i < 0 || i >= clause.size() ? 0 : clause.get(i);
        }

        private boolean satisfies(int assignment) {
            for (List<Integer> clause : formula) {
                boolean satisfied = false;
                for (int literal : clause) {
                    satisfied |= truth(assignment, Math.abs(literal)) == (literal > 0 ? 1 : 0);
                }
                if (!satisfied) {
                    return false;
                }
            }
            return true;
        }

        /** The first variable is the highest digit, so that the least assignment is the least number. */
        private int truth(int assignment, int v) {
            return assignment >> variables - v & 1;
        }

        int least() {
            for (int assignment = 0; assignment < 1 << variables; assignment++) {
                if (satisfies(assignment)) {
                    return assignment;
                }
            }
            return -1;
        }

        int count() {
            int count = 0;
            for (int assignment = 0; assignment < 1 << variables; assignment++) {
                count += satisfies(assignment) ? 1 : 0;
            }
            return count;
        }

        int value(int v) {
            int least = least();
            return v < 1 || v > variables || least < 0 ? -1 : truth(least, v);
        }

        int forced(int a, int b) {
            if (Math.abs(a) > variables || Math.abs(b) > variables || a != 0 && a + b == 0) {
                return -2;
            }
            Set<Integer> known = new TreeSet<>();
            known.add(a);
            known.add(b);
            known.remove(0);
            boolean more = true;
            while (more) {
                more = false;
                for (List<Integer> clause : formula) {
                    List<Integer> open = open(clause, known);
                    if (open.isEmpty()) {
                        return -1;
                    }
                    more |= open.size() == 1 && known.add(open.get(0));
                }
            }
            return known.size();
        }

        private static List<Integer> open(List<Integer> clause, Set<Integer> known) {
            List<Integer> open = new ArrayList<>();
            for (int literal : clause) {
                if (!known.contains(-literal)) {
                    open.add(literal);
                }
            }
            return open;
        }

        int line() {
            String text = typed.toString();
            typed.setLength(0);
            split(text, false);
            Integer number = number(1, 999);
            if (number == null) {
                return -1 - places.get(at);
            }
            at++;
            List<Integer> named = new ArrayList<>();
            if (words.get(at).equals("d")) {
                at++;
                return numbersFit(0, named) ? delete(named) : -1 - places.get(at);
            }
            List<Integer> clause = new ArrayList<>();
            if (!clauseFits(variables, clause) || !numbersFit(-999, named)) {
                return -1 - places.get(at);
            }
            return add(number, clause, named);
        }

        private int delete(List<Integer> named) {
            Set<Integer> distinct = new HashSet<>(named);
            if (distinct.size() < named.size() || !live.keySet().containsAll(distinct)) {
                return -2000;
            }
            live.keySet().removeAll(distinct);
            return 1;
        }

        private int add(int number, List<Integer> clause, List<Integer> hints) {
            if (number <= highest || live.size() == 40) {
                return -2000;
            }
            usedGroups = false;
            int failure = failure(clause, hints);
            if (failure >= 0) {
                return -1000 - failure;
            }
            live.put(number, clause);
            highest = number;
            refuted |= clause.isEmpty();
            return 1;
        }

        /** The hint's place, or -1 if the step holds. */
        private int failure(List<Integer> clause, List<Integer> hints) {
            Set<Integer> known = new HashSet<>();
            for (int literal : clause) {
                if (clause.contains(-literal)) {
                    return -1;
                }
                known.add(-literal);
            }
            int groups = nextGroup(hints, 0);
            int failure = follow(hints, 0, groups, known);
            if (failure == -1 || failure < groups || clause.isEmpty()) {
                return failure;
            }
            return groupFailure(clause.get(0), hints, groups, known);
        }

        private int groupFailure(int first, List<Integer> hints, int groups, Set<Integer> known) {
            int place = groups;
            for (int number : live.keySet()) {
                if (!live.get(number).contains(-first)) {
                    continue;
                }
                if (place == hints.size() || hints.get(place) != -number) {
                    return place;
                }
                usedGroups = true;
                int end = nextGroup(hints, place + 1);
                Set<Integer> inGroup = new HashSet<>(known);
                if (!deny(live.get(number), -first, inGroup)) {
                    int failure = follow(hints, place + 1, end, inGroup);
                    if (failure >= 0) {
                        return failure;
                    }
                }
                place = end;
            }
            return place < hints.size() ? place : -1;
        }

        /** Takes the others as false, one by one; whether one of them is known to be true. */
        private static boolean deny(List<Integer> clause, int but, Set<Integer> known) {
            for (int literal : clause) {
                if (literal != but) {
                    if (known.contains(literal)) {
                        return true;
                    }
                    known.add(-literal);
                }
            }
            return false;
        }

        private static int nextGroup(List<Integer> hints, int from) {
            int place = from;
            while (place < hints.size() && hints.get(place) > 0) {
                place++;
            }
            return place;
        }

        /** -1 at a conflict, the place of the hint that fails, or the end. */
        private int follow(List<Integer> hints, int from, int to, Set<Integer> known) {
            for (int place = from; place < to; place++) {
                List<Integer> clause = live.get(hints.get(place));
                if (clause == null) {
                    return place;
                }
                List<Integer> open = open(clause, known);
                if (open.isEmpty()) {
                    return -1;
                }
                if (open.size() > 1 || !known.add(open.get(0))) {
                    return place;
                }
            }
            return to;
        }
    }
}
