/** Calls on an object of ProofCourt, each held against the answer that is due. */
final class Due {
    private int calls;
    private int wrong;
    private String section = "";
    ProofCourt court = new ProofCourt();

    void section(String name) {
        section = name;
        court = new ProofCourt();
    }

    void same(String call, long got, long want) {
        calls++;
        if (got != want) {
            wrong++;
            System.out.println(section + ": " + shown(call) + " answered " + got + ", due is " + want);
        }
    }

    void same(String call, boolean got, boolean want) {
        same(call, got ? 1 : 0, want ? 1 : 0);
    }

    /** Types a text, in words of four characters and a shorter last one. */
    void types(String text) {
        for (int i = 0; i < text.length(); i += 4) {
            String part = text.substring(i, Math.min(text.length(), i + 4));
            same("type " + part, court.type(word(part), part.length()), true);
        }
    }

    void reads(String text, int want) {
        types(text);
        same("read " + text, court.read(), want);
    }

    void lines(String text, int want) {
        types(text);
        same("line " + text, court.line(), want);
    }

    /** The literals of a live clause, and that none follows them. */
    void holds(int number, int... literals) {
        for (int i = 0; i < literals.length; i++) {
            same("literal " + number + " " + i, court.literal(number, i), literals[i]);
        }
        same("literal " + number + " " + literals.length, court.literal(number, literals.length), 0);
    }

    static int word(String part) {
        int word = 0;
        for (int i = 0; i < part.length(); i++) {
            word = word << 8 | part.charAt(i);
        }
        return word;
    }

    void end() {
        System.out.println(calls + " calls, " + wrong + " wrong");
        if (wrong != 0) {
            System.exit(1);
        }
    }

    boolean isWrong() {
        return wrong != 0;
    }

    private static String shown(String call) {
        return call.replace("\n", "\\n");
    }
}
