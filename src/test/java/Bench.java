import java.util.function.LongSupplier;

/** A new GoalDesk, with calls told as texts and answers compared with those due. */
final class Bench {
    static final String BAD = "throws.IllegalArgumentException";
    static final String NONE = "throws.NoSuchElementException";
    static final String STATE = "throws.IllegalStateException";
    static final String UNFIT = "throws.UnsupportedOperationException";
    // Nothing is promised of later calls, so a test may not look at them.
    private static final int MOST_CALLS = 512;

    private final GoalDesk desk = new GoalDesk();
    private final Due due;
    private String last = "new";
    private int calls = 0;

    Bench(Due due, String... clauses) {
        this.due = due;
        for (int i = 0; i < clauses.length; i++) {
            add(clauses[i], String.valueOf(i + 1));
        }
    }

    /** The first eight characters of a text, or fewer, as the number that type takes. */
    static long eight(String text) {
        long number = 0;
        for (int i = 0; i < text.length() && i < 8; i++) {
            number = number << 8 | text.charAt(i);
        }
        return number;
    }

    private String call(LongSupplier one) {
        calls++;
        if (calls == MOST_CALLS + 1) {
            due.same("(after " + last + ") the test", "more than 512 calls", "512 calls at most");
        }
        return Due.answer(one);
    }

    private void same(String what, String got, String wanted) {
        due.same("(after " + last + ") " + what, got, wanted);
    }

    void type(long eight, String wanted) {
        same("type(" + eight + ")", call(() -> desk.type(eight)), wanted);
    }

    void type(String text) {
        for (int from = 0; from < text.length(); from += 8) {
            long eight = eight(text.substring(from));
            call(() -> desk.type(eight));
        }
    }

    void add(String text, String wanted) {
        type(text);
        last = "add " + text;
        same("add()", call(desk::add), wanted);
    }

    /** The answer due for a drop that is done is "gone". */
    void drop(int i, String wanted) {
        last = "drop " + i;
        String got = call(() -> {
            desk.drop(i);
            return 0;
        });
        same("drop", got.equals("0") ? "gone" : got, wanted);
    }

    void ask(String text, String wanted) {
        type(text);
        last = "ask " + text;
        same("ask()", call(desk::ask), wanted);
    }

    /** Reads the text, as a clause or as a question: whether it can be read is all that is looked at. */
    void read(String text, boolean clause, boolean right) {
        type(text);
        last = (clause ? "add " : "ask ") + text;
        String got = clause ? call(desk::add) : call(desk::ask);
        same("reading", String.valueOf(!got.equals(BAD)), String.valueOf(right));
    }

    void next(String wanted) {
        same("next()", call(desk::next), wanted);
        last = last.endsWith(" next") ? last : last + " next";
    }

    void letter(int v, int i, String wanted) {
        same("letter(" + v + ", " + i + ")", call(() -> desk.letter(v, i)), wanted);
    }

    void letter(int v, int i, char wanted) {
        letter(v, i, String.valueOf((int) wanted));
    }

    void value(char v, String wanted) {
        String got = written(v - 'A');
        same("the value of " + v, got, wanted);
        letter(v - 'A', got.length(), NONE);
    }

    /** The whole text of a variable's value, or what its length throws. */
    private String written(int v) {
        String length = call(() -> desk.letter(v, -1));
        if (length.startsWith("throws")) {
            return length;
        }
        StringBuilder got = new StringBuilder();
        for (int i = 0; i < Integer.parseInt(length); i++) {
            int at = i;
            got.append((char) Integer.parseInt(call(() -> desk.letter(v, at))));
        }
        return got.toString();
    }

    void sleeping(int v, String wanted) {
        same("sleeping(" + v + ")", call(() -> desk.sleeping(v)), wanted);
    }

    void sleeping(char v, int wanted) {
        sleeping(v - 'A', String.valueOf(wanted));
    }

    void count(int what, int wanted) {
        same("count(" + what + ")", call(() -> desk.count(what)), String.valueOf(wanted));
    }

    void counts(int answers, int choices, int aparts, int variables) {
        count(3, answers);
        count(4, choices);
        count(5, aparts);
        count(6, variables);
    }

    void nothingAsked() {
        counts(0, 0, 0, 0);
        sleeping('X', -1);
        letter('X' - 'A', -1, NONE);
        next(NONE);
    }

    /** All that can be looked at without changing anything, in one text; some 70 calls. */
    String seen() {
        StringBuilder all = new StringBuilder();
        for (int what = 0; what <= 6; what++) {
            int w = what;
            all.append("count ").append(w).append(' ').append(call(() -> desk.count(w))).append('\n');
        }
        for (int v = 0; v < 26; v++) {
            int one = v;
            all.append((char) ('A' + v)).append(' ').append(call(() -> desk.sleeping(one))).append(' ');
            all.append(written(v)).append('\n');
        }
        return all.toString();
    }

    /** That this object looks as the other one does. */
    void sameAs(Bench other) {
        same("all that is seen", seen(), other.seen());
    }
}
