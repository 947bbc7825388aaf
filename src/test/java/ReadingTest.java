/** TERMS, GOALS and READING: which texts are right, and THE PLACE of those that are not. */
public final class ReadingTest {
    private static final String SMALL = "abcdefghijklmnopqrstuvwxyz";
    private static final String BIG = SMALL.toUpperCase();
    private static final String DIGITS = "0123456789";
    private static final String TERM = SMALL + BIG + DIGITS;
    private static final String SIGNS = "=~<?";
    // Behind each of these a term that is a call may stand, and end the text.
    private static final String[] PLACES_OF_TERMS = {"", "z:", "z:!,", "z:X=", "z:X~", "z:1<", "z:X?"};

    public static void main(String[] args) {
        Due due = new Due();
        everyCharacterOfClauses(due);
        everyCharacterOfQuestions(due);
        everyCharacterAtDepthSix(due);
        howManyArguments(due);
        howDeep(due);
        howLong(due);
        theFirstOfSeveral(due);
        theEnd(due);
        digitsAndLetters(due);
        due.end();
    }

    /** Each character from 33 to 126 behind what stands before: which end a right text, and which one may begin with. */
    private static void everyCharacterOfClauses(Due due) {
        each(due, true, "", SMALL, "");
        each(due, true, "a", "", "(:");
        each(due, true, "a(", "", TERM);
        each(due, true, "a(b", ")", "(,");
        each(due, true, "a(B", ")", ",");
        each(due, true, "a(1", ")", ",");
        each(due, true, "a(b(1", "", "),");
        each(due, true, "a(b(1)", ")", ",");
        each(due, true, "a(1)", "", ":");
        each(due, true, "a(1,", "", TERM);
        each(due, true, "a(1,2", ")", ",");
        each(due, true, "a(1,2,", "", TERM);
        each(due, true, "a(1,2,3", ")", "");
        each(due, true, "a(1,2,b", ")", "(");
        each(due, true, "a(1,2,3)", "", ":");
        goals(due, true, "a:");
        goals(due, true, "a(X):b,");
    }

    private static void everyCharacterOfQuestions(Due due) {
        goals(due, false, "");
        goals(due, false, "!,X=1,");
    }

    private static void goals(Due due, boolean clause, String before) {
        each(due, clause, before, SMALL + "!", BIG + DIGITS);
        each(due, clause, before + "!", "", ",");
        each(due, clause, before + "b", "", "(," + SIGNS);
        each(due, clause, before + "B", "", SIGNS);
        each(due, clause, before + "1", "", SIGNS);
        each(due, clause, before + "b(1", ")", ",");
        each(due, clause, before + "b(1)", "", "," + SIGNS);
        for (char sign : "=~<".toCharArray()) {
            each(due, clause, before + "b" + sign, TERM, "");
            each(due, clause, before + "B" + sign + "b", "", "(,");
            each(due, clause, before + "b" + sign + "B", "", ",");
            each(due, clause, before + "1" + sign + "1", "", ",");
            each(due, clause, before + "b(1)" + sign + "b(1)", "", ",");
        }
        each(due, clause, before + "B?", SMALL, "");
        each(due, clause, before + "b?", SMALL, "");
        each(due, clause, before + "1?", SMALL, "");
        each(due, clause, before + "B?b", "", "(,");
        each(due, clause, before + "B?b(1)", "", ",");
    }

    private static void each(Due due, boolean clause, String before, String ends, String goesOn) {
        for (char c = 33; c <= 126; c++) {
            if (ends.indexOf(c) >= 0) {
                right(due, clause, before + c);
            } else {
                wrong(due, clause, before + c, before.length() + (goesOn.indexOf(c) >= 0 ? 1 : 0));
            }
        }
    }

    private static void right(Due due, boolean clause, String text) {
        Bench b = new Bench(due);
        b.read(text, clause, true);
        b.count(0, -1);
        b.count(1, 0);
        b.count(2, clause ? 1 : 0);
    }

    private static void wrong(Due due, boolean clause, String text, int place) {
        Bench b = new Bench(due);
        b.read(text, clause, false);
        b.count(0, place);
        b.count(1, 0);
        b.count(2, 0);
    }

    /** As a clause; and if its head is z, its body as a question too. */
    private static void right(Due due, String text) {
        right(due, true, text);
        if (text.startsWith("z:")) {
            right(due, false, text.substring(2));
        }
    }

    private static void wrong(Due due, String text, int place) {
        wrong(due, true, text, place);
        if (text.startsWith("z:")) {
            wrong(due, false, text.substring(2), place - 2);
        }
    }

    /** "At depth 6 ( is such", but nothing else that may stand there at depth 5. */
    private static void everyCharacterAtDepthSix(Due due) {
        each(due, true, "a(b(c(d(e", "", "(),");
        each(due, true, "a(b(c(d(e(", "", TERM);
        each(due, true, "a(b(c(d(e(f", "", "),");
        each(due, true, "a(b(c(d(e(F", "", "),");
        each(due, true, "a(b(c(d(e(6", "", "),");
        each(due, true, "a(b(c(d(e(1,f", "", "),");
        each(due, true, "a(b(c(d(e(1,2,f", "", ")");
        each(due, true, "a(b(c(d(e(f)", "", "),");
        each(due, false, "X=a(b(c(d(e(f", "", "),");
        each(due, false, "X?a(b(c(d(e(f", "", "),");
    }

    /** "With 1 to 3 ARGUMENTS": none is too few, a fourth is one too many, wherever the term stands. */
    private static void howManyArguments(Due due) {
        for (String before : PLACES_OF_TERMS) {
            wrong(due, before + "a()", before.length() + 2);
            right(due, before + "a(1)");
            right(due, before + "a(1,X)");
            right(due, before + "a(1,X,c)");
            wrong(due, before + "a(1,X,c,4)", before.length() + 7);
            wrong(due, before + "a(1,,c)", before.length() + 4);
            wrong(due, before + "a(1,X,)", before.length() + 6);
            wrong(due, before + "a(b(),1)", before.length() + 4);
            wrong(due, before + "a(1,b(1,2,3,4))", before.length() + 11);
            wrong(due, before + "a(1,2,b(1,2,3,4))", before.length() + 13);
        }
    }

    /** "At most 6 deep in one another (the outermost at depth 1)". */
    private static void howDeep(Due due) {
        for (String before : PLACES_OF_TERMS) {
            right(due, before + "a(b(c(d(e(f)))))");
            wrong(due, before + "a(b(c(d(e(f(g))))))", before.length() + 11);
            wrong(due, before + "a(b(c(d(e(f(", before.length() + 11);
            right(due, before + "a(1,b(c(d(e(f)))),3)");
            wrong(due, before + "a(1,b(c(d(e(f(7))))),3)", before.length() + 13);
            right(due, before + "a(b(c(d(e(1,2,f)))))");
            wrong(due, before + "a(b(c(d(e(1,2,f(X))))))", before.length() + 15);
        }
        for (String sign : new String[] {"=1", "~1", "<1", "?b"}) {
            right(due, "z:a(b(c(d(e(f)))))" + sign);
            wrong(due, "z:a(b(c(d(e(f(7))))))" + sign, 13);
        }
        // What was deep before counts no more behind it.
        right(due, "a(b(c(d(e(6)))),b(c(d(e(6)))),b(c(d(e(6)))))");
        right(due, "a(b(c(d(e(6))))):a(b(c(d(e(6))))),b(c(d(e(6))))");
        right(due, "z:b(c(d(e(f(6)))))=b(c(d(e(f(6)))))");
    }

    /** "The text has at most 48 characters", and all of them are read. */
    private static void howLong(Due due) {
        String cuts = "!,".repeat(21);
        Bench b = new Bench(due);
        b.add("p(1):" + cuts + "!", "1");
        b.ask("p(1)," + cuts + "!", "46");
        b.ask("p(1)," + cuts + "z", Bench.NONE);
        b.count(0, -1);
        b.ask("p(1)," + cuts + "?", Bench.BAD);
        b.count(0, 47);
        b.add("p(1):" + cuts + "?", Bench.BAD);
        b.count(0, 47);
        b.ask("!,".repeat(24), Bench.BAD);
        b.count(0, 48);
        b.add("p:" + "!,".repeat(23), Bench.BAD);
        b.count(0, 48);
        b.ask("!,".repeat(23) + "!", "24");
        b.add("p:" + "!,".repeat(22) + "!", "2");
        b.ask("p", "24");
    }

    /** "The first character with which nothing right could begin", whatever else is wrong behind it. */
    private static void theFirstOfSeveral(Due due) {
        wrong(due, true, "))))", 0);
        wrong(due, true, "X:Y,Z", 0);
        wrong(due, true, "ab(:,", 1);
        wrong(due, true, "a(1(2(3(", 3);
        wrong(due, true, "a(!):(", 2);
        wrong(due, true, "a:b:c:d", 3);
        wrong(due, true, "a:b=c=d,!!", 5);
        wrong(due, false, "(((", 0);
        wrong(due, false, "XY=", 1);
        wrong(due, false, "a:b,Y", 1);
        wrong(due, false, "a,b,!!,Y", 5);
        wrong(due, false, "X?1,Y", 2);
        wrong(due, false, "a(b(c(d(e(f(g(h(,", 11);
        wrong(due, false, "a".repeat(48), 1);
    }

    /** "Or the length, if just the end is wrong": the empty text too. */
    private static void theEnd(Due due) {
        wrong(due, true, "", 0);
        wrong(due, false, "", 0);
        String[] begun = {"a(", "a(b", "a(1,", "a(1,2,3", "a(b(c(d(e(f", "a(b(c(d(e(f))))", "X", "1", "X=", "X=f(", "X~", "X<",
            "X?", "X?a(", "X?a(1", "a,", "!,", "a(1),", "X=Y,", "X=Y,Z"};
        for (String text : begun) {
            wrong(due, false, text, text.length());
            wrong(due, true, "z:" + text, text.length() + 2);
        }
        wrong(due, true, "z:", 2);
        wrong(due, true, "z(1):", 5);
        wrong(due, true, "z(", 2);
        wrong(due, true, "z(1,2", 5);
    }

    /** "Digits and letters alone are letters without ARGUMENTS here": a digit can't be called and has none. */
    private static void digitsAndLetters(Due due) {
        wrong(due, "z:1", 3);
        wrong(due, "z:1(2)=3", 3);
        wrong(due, "z:X=1(2)", 5);
        wrong(due, "z:X?1", 4);
        wrong(due, "z:X(1)=2", 3);
        wrong(due, true, "1", 0);
        wrong(due, true, "X", 0);
        Bench b = new Bench(due);
        b.ask("f(0,9,a,z)=X", Bench.BAD);
        b.ask("X=f(0,9,a),Y=z", "4");
        b.value('X', "f(0,9,a)");
        b.value('Y', "z");
    }
}
