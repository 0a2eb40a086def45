/**
 * Formulas of clauses: read from texts, decided by a search that learns, with a proof of its own
 * where nothing satisfies them; proofs that are told line by line are checked, each step by the
 * clauses that it names.
 *
 * Sets of literals are held as masks: bit v - 1 for the variable v, bit v + 9 for its opposite.
 * What is known is such a set, too: the literals that are taken as true.
 */
public final class ProofCourt {
    private static final int MAX_TYPED = 160;
    private static final int MAX_DIGITS = 4;
    private static final int MAX_VARIABLES = 10;
    private static final int MAX_LITERALS = 6;
    private static final int MAX_CLAUSES = 24;
    private static final int MAX_LIVE = 40;
    private static final int MAX_NAMED = 12;
    private static final int MAX_NUMBER = 999;

    // After each conflict the search holds more literals at some level, and as many as before at
    // the levels below it; ten variables leave fewer than this many ways to spread over levels.
    private static final int MAX_LEARNED = 2048;
    // Between two conflicts each variable is decided once at most.
    private static final int MAX_ROUNDS = (MAX_LEARNED + 1) * (MAX_VARIABLES + 1);

    private static final int ALL_LITERALS = (1 << 2 * MAX_VARIABLES) - 1;
    private static final int NONE = -1;

    // Answers of a hint or a step; what is known, and the place of a hint, are never below 0.
    private static final int CONFLICT = -1;
    private static final int STUCK = -2;
    private static final int HOLDS = -3;

    private static final int REFUSED_LINE = -2000;
    private static final int FAILED_LINE = -1000;

    private final Text text = new Text();
    private final Proof proof = new Proof();
    private final Search search = new Search();
    private Formula formula;

    public ProofCourt() {
        take(new Formula(0));
    }

    public boolean type(int word, int n) {
        return text.append(word, n);
    }

    public int read() {
        Formula told = Formula.formulaIn(text);
        int fault = text.start;
        text.clear();
        if (told == null) {
            return -1 - fault;
        }
        take(told);
        return told.size;
    }

    public int variables() {
        return formula.variables;
    }

    public int live() {
        return proof.size;
    }

    public int literal(int number, int i) {
        Clause clause = proof.find(number);
        return clause == null || i < 0 || i >= clause.size ? 0 : clause.literals[i];
    }

    public int solve() {
        return search.finds() ? 1 : 0;
    }

    public int value(int v) {
        if (v < 1 || v > formula.variables || !search.finds()) {
            return -1;
        }
        return (search.known & bit(v)) != 0 ? 1 : 0;
    }

    public int count() {
        return formula.satisfying();
    }

    public int forced(int a, int b) {
        if (!isLiteralOrNone(a) || !isLiteralOrNone(b) || a != 0 && a == -b) {
            return -2;
        }
        int known = formula.forcedBy(bit(a) | bit(b));
        return known == CONFLICT ? -1 : Integer.bitCount(known);
    }

    public int line() {
        Line told = Line.lineIn(text, formula.variables);
        int fault = text.start;
        text.clear();
        if (told == null) {
            return -1 - fault;
        }
        return told.clause == null ? proof.delete(told) : proof.add(told);
    }

    public boolean refuted() {
        return proof.addedEmpty;
    }

    public boolean proves() {
        return !search.finds() && search.reachedEmpty && search.stepsHold;
    }

    private void take(Formula told) {
        formula = told;
        proof.begin(told);
        search.begin(told);
    }

    private boolean isLiteralOrNone(int a) {
        return -formula.variables <= a && a <= formula.variables;
    }

    /** The mask of a literal; no bit for 0. */
    private static int bit(int literal) {
        if (literal == 0) {
            return 0;
        }
        return literal > 0 ? 1 << (literal - 1) : 1 << (MAX_VARIABLES - 1 - literal);
    }

    private static int opposites(int mask) {
        return (mask << MAX_VARIABLES | mask >> MAX_VARIABLES) & ALL_LITERALS;
    }

    /** What is known behind a clause: CONFLICT if it is false, STUCK if it tells nothing new. */
    private static int follow(int clause, int known) {
        int open = clause & ~opposites(known);
        if (open == 0) {
            return CONFLICT;
        }
        return Integer.bitCount(open) == 1 && (open & known) == 0 ? known | open : STUCK;
    }

    /** What is typed, with a walk over its words. */
    private static final class Text {
        private final char[] characters = new char[MAX_TYPED];
        private int length;
        private boolean skipsRemarks;
        // The word that the walk stands at; at the end both are the text's length.
        private int start;
        private int end;
        private int number;

        boolean append(int word, int n) {
            if (n < 1 || n > 4 || length + n > MAX_TYPED) {
                return false;
            }
            for (int i = n - 1; i >= 0; i--) {
                if (!isCharacter(byteOf(word, i))) {
                    return false;
                }
            }
            for (int i = n - 1; i >= 0; i--) {
                characters[length] = (char) byteOf(word, i);
                length++;
            }
            return true;
        }

        void clear() {
            length = 0;
        }

        void rewind(boolean withRemarks) {
            skipsRemarks = withRemarks;
            end = 0;
            advance();
        }

        void advance() {
            standBehind(end);
            for (int i = 0; i < length && isRemark(); i++) {
                standBehind(lineEnd());
            }
        }

        boolean isAtEnd() {
            return start >= length;
        }

        boolean isWord(String wanted) {
            if (end - start != wanted.length()) {
                return false;
            }
            for (int i = start; i < end; i++) {
                if (characters[i] != wanted.charAt(i - start)) {
                    return false;
                }
            }
            return true;
        }

        /** Whether the word is a number from low to high, which is then kept as number. */
        boolean isNumber(int low, int high) {
            boolean negative = start < end && characters[start] == '-';
            int first = negative ? start + 1 : start;
            if (first >= end || end - first > MAX_DIGITS) {
                return false;
            }
            int size = 0;
            for (int i = first; i < end; i++) {
                if (characters[i] < '0' || characters[i] > '9') {
                    return false;
                }
                size = 10 * size + (characters[i] - '0');
            }
            number = negative ? -size : size;
            return low <= number && number <= high;
        }

        boolean passesWord(String wanted) {
            if (!isWord(wanted)) {
                return false;
            }
            advance();
            return true;
        }

        boolean passesNumber(int low, int high) {
            if (!isNumber(low, high)) {
                return false;
            }
            advance();
            return true;
        }

        private void standBehind(int place) {
            start = place;
            while (start < length && isBlank(characters[start])) {
                start++;
            }
            end = start;
            while (end < length && !isBlank(characters[end])) {
                end++;
            }
        }

        private boolean isRemark() {
            return skipsRemarks && isWord("c") && beginsLine();
        }

        private boolean beginsLine() {
            int before = start - 1;
            while (before >= 0 && characters[before] == ' ') {
                before--;
            }
            return before < 0 || characters[before] == '\n';
        }

        private int lineEnd() {
            int i = start;
            while (i < length && characters[i] != '\n') {
                i++;
            }
            return i;
        }

        private static int byteOf(int word, int i) {
            return word >> 8 * i & 255;
        }

        private static boolean isCharacter(int code) {
            return code == 10 || code >= 32 && code <= 126;
        }

        private static boolean isBlank(char c) {
            return c == ' ' || c == '\n';
        }
    }

    /** A clause: its literals as they are told, each once. */
    private static final class Clause {
        private final int number;
        private final int[] literals = new int[MAX_LITERALS];
        private int size;
        private int mask;

        Clause(int number) {
            this.number = number;
        }

        /** The literals up to their 0, or null with the walk at the fault. */
        static Clause clauseIn(Text text, int number, int variables) {
            Clause told = new Clause(number);
            for (int i = 0; i < MAX_TYPED && text.isNumber(-variables, variables); i++) {
                int literal = text.number;
                if (literal != 0 && !told.accept(literal)) {
                    return null;
                }
                text.advance();
                if (literal == 0) {
                    return told;
                }
            }
            return null;
        }

        /** False if it is a literal too many. */
        private boolean accept(int literal) {
            if ((mask & bit(literal)) != 0) {
                return true;
            }
            if (size >= MAX_LITERALS) {
                return false;
            }
            literals[size] = literal;
            size++;
            mask |= bit(literal);
            return true;
        }
    }

    /** The variables and clauses that were read; no proof changes them. */
    private static final class Formula {
        private final int variables;
        private final Clause[] clauses = new Clause[MAX_CLAUSES];
        private int size;
        private int counted = NONE;

        Formula(int variables) {
            this.variables = variables;
        }

        /** The formula, or null with the walk at the fault. */
        static Formula formulaIn(Text text) {
            text.rewind(true);
            if (!text.passesWord("p") || !text.passesWord("cnf")
                    || !text.passesNumber(1, MAX_VARIABLES)) {
                return null;
            }
            Formula told = new Formula(text.number);
            if (!text.passesNumber(0, MAX_CLAUSES) || !told.takesClauses(text, text.number)) {
                return null;
            }
            return text.isAtEnd() ? told : null;
        }

        private boolean takesClauses(Text text, int clausesDue) {
            for (int i = 0; i < clausesDue && i < MAX_CLAUSES; i++) {
                Clause clause = Clause.clauseIn(text, i + 1, variables);
                if (clause == null) {
                    return false;
                }
                clauses[i] = clause;
                size = i + 1;
            }
            return true;
        }

        /** How many assignments satisfy it; kept, as it never changes and is dear to find. */
        int satisfying() {
            if (counted == NONE) {
                counted = 0;
                for (int trues = 0; trues < 1 << variables; trues++) {
                    int falses = (1 << variables) - 1 - trues;
                    if (isSatisfied(trues | falses << MAX_VARIABLES)) {
                        counted++;
                    }
                }
            }
            return counted;
        }

        private boolean isSatisfied(int known) {
            for (int i = 0; i < size; i++) {
                if ((clauses[i].mask & known) == 0) {
                    return false;
                }
            }
            return true;
        }

        /** All that is known then, or CONFLICT. */
        int forcedBy(int assumed) {
            int known = assumed;
            // Each round but the last learns a variable.
            for (int round = 0; round <= variables; round++) {
                int before = known;
                for (int i = 0; i < size; i++) {
                    int next = follow(clauses[i].mask, known);
                    if (next == CONFLICT) {
                        return CONFLICT;
                    }
                    known = next == STUCK ? known : next;
                }
                if (known == before) {
                    return known;
                }
            }
            return known;
        }
    }

    /** A line of a proof: without a clause it deletes the named ones, else they are its hints. */
    private static final class Line {
        private final int number;
        private Clause clause;
        private final int[] named = new int[MAX_NAMED];
        private int size;

        Line(int number) {
            this.number = number;
        }

        /** The line, or null with the walk at the fault. */
        static Line lineIn(Text text, int variables) {
            text.rewind(false);
            if (!text.passesNumber(1, MAX_NUMBER)) {
                return null;
            }
            Line told = new Line(text.number);
            boolean complete = text.passesWord("d")
                    ? told.takesNamed(text, 0)
                    : told.takesClause(text, variables) && told.takesNamed(text, -MAX_NUMBER);
            return complete && text.isAtEnd() ? told : null;
        }

        private boolean takesClause(Text text, int variables) {
            clause = Clause.clauseIn(text, number, variables);
            return clause != null;
        }

        private boolean takesNamed(Text text, int low) {
            for (int i = 0; i <= MAX_NAMED && text.isNumber(low, MAX_NUMBER); i++) {
                int name = text.number;
                if (name != 0 && size >= MAX_NAMED) {
                    return false;
                }
                text.advance();
                if (name == 0) {
                    return true;
                }
                named[size] = name;
                size++;
            }
            return false;
        }

        boolean names(int wanted, int places) {
            for (int i = 0; i < places && i < size; i++) {
                if (named[i] == wanted) {
                    return true;
                }
            }
            return false;
        }
    }

    /** The live clauses, in the order of their numbers. */
    private static final class Proof {
        private final Clause[] clauses = new Clause[MAX_LIVE];
        private int size;
        private int highest;
        private boolean addedEmpty;

        void begin(Formula formula) {
            for (int i = 0; i < formula.size; i++) {
                clauses[i] = formula.clauses[i];
            }
            size = formula.size;
            highest = formula.size;
            addedEmpty = false;
        }

        Clause find(int number) {
            for (int i = 0; i < size; i++) {
                if (clauses[i].number == number) {
                    return clauses[i];
                }
            }
            return null;
        }

        int delete(Line told) {
            for (int i = 0; i < told.size; i++) {
                if (find(told.named[i]) == null || told.names(told.named[i], i)) {
                    return REFUSED_LINE;
                }
            }
            int kept = 0;
            for (int i = 0; i < size; i++) {
                if (!told.names(clauses[i].number, told.size)) {
                    clauses[kept] = clauses[i];
                    kept++;
                }
            }
            size = kept;
            return 1;
        }

        int add(Line told) {
            if (told.number <= highest || size >= MAX_LIVE) {
                return REFUSED_LINE;
            }
            int outcome = new Check(this, told).outcome();
            if (outcome != HOLDS) {
                return FAILED_LINE - outcome;
            }
            clauses[size] = told.clause;
            size++;
            highest = told.number;
            addedEmpty = addedEmpty || told.clause.size == 0;
            return 1;
        }
    }

    /** The check of one line that adds. */
    private static final class Check {
        private final Proof proof;
        private final Line step;
        private int known;
        // The hint that comes next; where the step fails, this is the place that is told.
        private int place;

        Check(Proof proof, Line step) {
            this.proof = proof;
            this.step = step;
        }

        /** HOLDS, or the place of the hint at which the step fails. */
        int outcome() {
            int clause = step.clause.mask;
            known = opposites(clause);
            if ((clause & known) != 0) {
                return HOLDS;
            }
            int end = followHints();
            if (end == CONFLICT) {
                return HOLDS;
            }
            return end != STUCK && step.clause.size > 0 && groupsHold() ? HOLDS : place;
        }

        /** Follows the hints up to a conflict, to one that is stuck, or to the next group. */
        private int followHints() {
            while (place < step.size && step.named[place] > 0) {
                Clause hint = proof.find(step.named[place]);
                int next = hint == null ? STUCK : follow(hint.mask, known);
                if (next < 0) {
                    return next;
                }
                known = next;
                place++;
            }
            return known;
        }

        private boolean groupsHold() {
            int rival = bit(-step.clause.literals[0]);
            int knownBefore = known;
            for (int i = 0; i < proof.size; i++) {
                Clause clause = proof.clauses[i];
                if ((clause.mask & rival) == 0) {
                    continue;
                }
                if (place >= step.size || step.named[place] != -clause.number) {
                    return false;
                }
                place++;
                int others = clause.mask & ~rival;
                known = knownBefore | opposites(others);
                // One of the others may be known by its own opposite among them, too.
                if ((others & known) == 0 && followHints() != CONFLICT) {
                    return false;
                }
                skipHints();
            }
            return place >= step.size;
        }

        private void skipHints() {
            while (place < step.size && step.named[place] > 0) {
                place++;
            }
        }
    }

    /**
     * The search that learns. It always decides the first variable that is not known, as false:
     * so what is true in the assignment that it finds was forced by smaller variables, and the
     * assignment is the least one.
     */
    private static final class Search {
        private final int[] clauses = new int[MAX_CLAUSES + MAX_LEARNED];
        private int size;
        private int variables;
        private boolean finished;
        private boolean satisfied;
        private boolean reachedEmpty;
        private boolean stepsHold;
        // What is known, in the order in which it came, each literal with the clause that forced it.
        private int known;
        private final int[] trail = new int[MAX_VARIABLES];
        private final int[] reasons = new int[MAX_VARIABLES];
        private int trailSize;
        // What was known before the decision of each level; level 0 has none.
        private final int[] knownBefore = new int[MAX_VARIABLES + 1];
        private int level;
        // The hints of the clause that was learned last, the last hint first.
        private final int[] hints = new int[MAX_VARIABLES + 1];
        private int hintCount;

        void begin(Formula formula) {
            size = formula.size;
            for (int i = 0; i < size; i++) {
                clauses[i] = formula.clauses[i].mask;
            }
            variables = formula.variables;
            finished = false;
            satisfied = false;
            reachedEmpty = false;
            stepsHold = true;
            known = 0;
            trailSize = 0;
            level = 0;
        }

        /** Whether an assignment satisfies the formula; known tells it then. */
        boolean finds() {
            for (int round = 0; round < MAX_ROUNDS && !finished; round++) {
                int conflict = propagate();
                if (conflict != NONE) {
                    resolve(conflict);
                } else if (trailSize < variables) {
                    decide();
                } else {
                    satisfied = true;
                    finished = true;
                }
            }
            return satisfied;
        }

        /** Takes what is forced; the place of a clause that is false then, or NONE. */
        private int propagate() {
            // Each round but the last learns a variable.
            for (int round = 0; round <= variables; round++) {
                int before = known;
                for (int i = 0; i < size; i++) {
                    int next = follow(clauses[i], known);
                    if (next == CONFLICT) {
                        return i;
                    }
                    if (next != STUCK) {
                        assume(next & ~known, i);
                    }
                }
                if (known == before) {
                    return NONE;
                }
            }
            return NONE;
        }

        private void assume(int literal, int reason) {
            if (trailSize < MAX_VARIABLES) {
                trail[trailSize] = literal;
                reasons[trailSize] = reason;
                trailSize++;
                known |= literal;
            }
        }

        private void decide() {
            int v = 1;
            while (v < variables && (known & (bit(v) | bit(-v))) != 0) {
                v++;
            }
            if (level < MAX_VARIABLES) {
                level++;
                knownBefore[level] = known;
                assume(bit(-v), NONE);
            }
        }

        private void resolve(int conflict) {
            int learned = learn(conflict);
            stepsHold = stepsHold && stepHolds(learned);
            if (learned == 0 || level == 0 || size >= clauses.length) {
                reachedEmpty = learned == 0;
                finished = true;
                return;
            }
            jumpBack(learned);
            clauses[size] = learned;
            size++;
        }

        /** A clause that follows from the clauses in hints, with one literal of this level. */
        private int learn(int conflict) {
            hints[0] = conflict;
            hintCount = 1;
            int blamed = opposites(clauses[conflict]);
            for (int i = trailSize - 1; i >= 0; i--) {
                if ((blamed & trail[i]) == 0 || isKept(i, blamed) || hintCount >= hints.length) {
                    continue;
                }
                int reason = reasons[i];
                hints[hintCount] = reason;
                hintCount++;
                blamed = blamed & ~trail[i] | opposites(clauses[reason] & ~trail[i]);
            }
            return opposites(blamed);
        }

        /** Whether a literal that is blamed stays so, and is not put down to its reason. */
        private boolean isKept(int i, int blamed) {
            if (reasons[i] == NONE) {
                return true;
            }
            if (level == 0 || (knownBefore[1] & trail[i]) != 0) {
                return false;
            }
            int blamedHere = blamed & ~knownBefore[level];
            return (knownBefore[level] & trail[i]) != 0 || blamedHere == trail[i];
        }

        private boolean stepHolds(int learned) {
            int assumed = opposites(learned);
            for (int i = hintCount - 1; i >= 0; i--) {
                int next = follow(clauses[hints[i]], assumed);
                if (next < 0) {
                    return next == CONFLICT;
                }
                assumed = next;
            }
            return false;
        }

        /** Goes back to the first level at which the learned clause forces its last literal. */
        private void jumpBack(int learned) {
            int others = opposites(learned) & knownBefore[level];
            int target = 0;
            while (target < level - 1 && (others & ~knownBefore[target + 1]) != 0) {
                target++;
            }
            known = knownBefore[target + 1];
            trailSize = Integer.bitCount(known);
            level = target;
        }
    }
}
