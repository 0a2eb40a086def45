/** Calls on an object of ProofCourt, each held against the answer that is due. */
final class Due {
    /** What calls answer behind this many on one object is free, so no test asks for it. */
    static final int MAX_CALLS = 512;

    private int calls;
    private int callsOfObject;
    private int wrong;
    private String section = "";
    ProofCourt court = new ProofCourt();

    void section(String name) {
        section = name;
        fresh();
    }

    /** A sentence of the document, or a part of one, on a new object. */
    void sentence(String place, String words) {
        section(place + ", '" + words + "'");
    }

    /** Goes on with a new object. */
    ProofCourt fresh() {
        court = new ProofCourt();
        callsOfObject = 0;
        return court;
    }

    int callsLeft() {
        return MAX_CALLS - callsOfObject;
    }

    void same(String call, long got, long want) {
        countCall();
        if (got != want) {
            tell(shown(call) + " answered " + got + ", due is " + want);
        }
    }

    void same(String call, boolean got, boolean want) {
        same(call, got ? 1 : 0, want ? 1 : 0);
    }

    /** Something that is no call. */
    void expect(String what, boolean holds) {
        if (!holds) {
            tell("it does not hold that " + shown(what));
        }
    }

    /** Types a text, in words of four characters and a shorter last one. */
    void types(String text) {
        for (int i = 0; i < text.length(); i += 4) {
            String part = text.substring(i, Math.min(text.length(), i + 4));
            same("type " + part, court.type(word(part), part.length()), true);
        }
    }

    void reads(String text, int want) {
        types(text);
        same("read " + text, court.read(), want);
    }

    void lines(String text, int want) {
        types(text);
        same("line " + text, court.line(), want);
    }

    /** The literals of a live clause, and that none follows them. */
    void holds(int number, int... literals) {
        for (int i = 0; i < literals.length; i++) {
            same("literal " + number + " " + i, court.literal(number, i), literals[i]);
        }
        same("literal " + number + " " + literals.length, court.literal(number, literals.length), 0);
    }

    /** The truths of all variables, as digits, and that no variable follows them. */
    void values(String digits) {
        for (int v = 1; v <= digits.length(); v++) {
            same("value " + v, court.value(v), digits.charAt(v - 1) - '0');
        }
        same("value " + (digits.length() + 1), court.value(digits.length() + 1), -1);
    }

    /** All that can be seen of the object without taking what is typed. */
    String seen() {
        StringBuilder text = new StringBuilder();
        text.append("variables ").append(counted(court.variables()));
        text.append(", live ").append(counted(court.live()));
        for (int number = 1; number <= 12; number++) {
            text.append(", clause ").append(number);
            int literal = counted(court.literal(number, 0));
            for (int i = 1; literal != 0 && i <= 6; i++) {
                text.append(' ').append(literal);
                literal = counted(court.literal(number, i));
            }
        }
        text.append(", solve ").append(counted(court.solve()));
        for (int v = 1; v <= 3; v++) {
            text.append(", value ").append(counted(court.value(v)));
        }
        text.append(", count ").append(counted(court.count()));
        for (int a = -1; a <= 2; a++) {
            text.append(", forced ").append(counted(court.forced(a, 0)));
        }
        text.append(", refuted ").append(counted(court.refuted() ? 1 : 0));
        text.append(", proves ").append(counted(court.proves() ? 1 : 0));
        return text.toString();
    }

    static int word(String part) {
        int word = 0;
        for (int i = 0; i < part.length(); i++) {
            word = word << 8 | part.charAt(i);
        }
        return word;
    }

    void end() {
        System.out.println(calls + " calls, " + wrong + " wrong");
        if (wrong != 0) {
            System.exit(1);
        }
    }

    boolean isWrong() {
        return wrong != 0;
    }

    private int counted(int answer) {
        countCall();
        return answer;
    }

    private void countCall() {
        calls++;
        callsOfObject++;
        if (callsOfObject == MAX_CALLS + 1) {
            tell("the test itself makes more than " + MAX_CALLS + " calls on one object");
        }
    }

    private void tell(String what) {
        wrong++;
        System.out.println(section + ": " + what);
    }

    private static String shown(String call) {
        return call.replace("\n", "\\n");
    }
}
