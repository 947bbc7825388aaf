/** A new GoalDesk, with calls told as texts and answers compared with those due. */
final class Bench {
    static final String BAD = "throws.IllegalArgumentException";
    static final String NONE = "throws.NoSuchElementException";
    static final String STATE = "throws.IllegalStateException";
    static final String UNFIT = "throws.UnsupportedOperationException";

    final GoalDesk desk = new GoalDesk();
    private final Due due;
    private String last = "new";

    Bench(Due due, String... clauses) {
        this.due = due;
        for (int i = 0; i < clauses.length; i++) {
            add(clauses[i], String.valueOf(i + 1));
        }
    }

    /** The first eight characters of a text, or fewer, as the number that type takes. */
    static long eight(String text) {
        long number = 0;
        for (int i = 0; i < text.length() && i < 8; i++) {
            number = number << 8 | text.charAt(i);
        }
        return number;
    }

    void same(String what, String got, String wanted) {
        due.same("(after " + last + ") " + what, got, wanted);
    }

    void type(long eight, String wanted) {
        same("type(" + eight + ")", Due.answer(() -> desk.type(eight)), wanted);
    }

    void type(String text) {
        for (int from = 0; from < text.length(); from += 8) {
            desk.type(eight(text.substring(from)));
        }
    }

    void add(String text, String wanted) {
        type(text);
        last = "add " + text;
        same("add()", Due.answer(desk::add), wanted);
    }

    void drop(int i, String wanted) {
        last = "drop " + i;
        same("drop", Due.answer(() -> { desk.drop(i); return 0; }), wanted);
    }

    void ask(String text, String wanted) {
        type(text);
        last = "ask " + text;
        same("ask()", Due.answer(desk::ask), wanted);
    }

    void next(String wanted) {
        same("next()", Due.answer(desk::next), wanted);
        last = last.endsWith(" next") ? last : last + " next";
    }

    void letter(int v, int i, String wanted) {
        same("letter(" + v + ", " + i + ")", Due.answer(() -> desk.letter(v, i)), wanted);
    }

    void value(char v, String wanted) {
        StringBuilder got = new StringBuilder();
        String length = Due.answer(() -> desk.letter(v - 'A', -1));
        if (length.startsWith("throws")) {
            same("the value of " + v, length, wanted);
            return;
        }
        for (int i = 0; i < Integer.parseInt(length); i++) {
            got.append((char) desk.letter(v - 'A', i));
        }
        same("the value of " + v, got.toString(), wanted);
        letter(v - 'A', got.length(), NONE);
    }

    void sleeping(char v, int wanted) {
        same("sleeping on " + v, Due.answer(() -> desk.sleeping(v - 'A')), String.valueOf(wanted));
    }

    void count(int what, int wanted) {
        same("count(" + what + ")", Due.answer(() -> desk.count(what)), String.valueOf(wanted));
    }

    void counts(int answers, int choices, int aparts, int variables) {
        count(3, answers);
        count(4, choices);
        count(5, aparts);
        count(6, variables);
    }
}
