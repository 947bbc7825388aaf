/** Promise 3: add. How a clause is read has a test of its own. */
public final class AddTest {
    private static final String[] ELEVEN = {"p(1)", "p(2)", "a", "a", "a", "a", "a", "a", "a", "a", "a"};

    public static void main(String[] args) {
        Due due = new Due();
        whichComesLast(due);
        answersHowMany(due);
        theTextIsEmptyThen(due);
        badTexts(due);
        aBadTextAddsNothing(due);
        shorterTexts(due);
        theTwelfth(due);
        twelveAreThere(due);
        isNotRead(due);
        roomAgain(due);
        whatIsAsked(due);
        longClauses(due);
        due.end();
    }

    private static void whichComesLast(Due due) {
        Bench b = new Bench(due, "p(2)", "p(1)", "p(X):X=3");
        b.ask("p(X)", "2");
        b.value('X', "2");
        b.next("3");
        b.value('X', "1");
        b.next("6");
        b.value('X', "3");
        b.next(Bench.NONE);
        b.add("p(0)", "4");
        b.ask("p(X)", "2");
        b.next("3");
        b.next("6");
        b.next("7");
        b.value('X', "0");
        b.next(Bench.NONE);
    }

    /** "Answers how many there are": also if they are alike, and from the first to the twelfth. */
    private static void answersHowMany(Due due) {
        Bench b = new Bench(due);
        for (int many = 1; many <= 12; many++) {
            b.count(2, many - 1);
            b.add("a", String.valueOf(many));
            b.count(2, many);
        }
    }

    /** "The text, empty then also if it's bad". */
    private static void theTextIsEmptyThen(Due due) {
        Bench b = new Bench(due);
        b.type("p(1)");
        b.count(1, 4);
        b.add("", "1");
        b.count(1, 0);
        b.type("p(2");
        b.count(1, 3);
        b.add("", Bench.BAD);
        b.count(1, 0);
        b.add(")", Bench.BAD);
        b.count(0, 0);
        b.add("", Bench.BAD);
        b.count(0, 0);
        b.add("p(2)", "2");
        b.ask("p(2)", "3");
    }

    private static void badTexts(Due due) {
        String[] texts = {"", "X", "1", "!", "X=1", "p(1", "p()", "p(1,2,3,4)", "p(1):", "p,q", "p(b(c(d(e(f(g))))))", "p:X?Y"};
        int[] places = {0, 0, 0, 0, 0, 3, 2, 7, 5, 1, 11, 4};
        for (int i = 0; i < texts.length; i++) {
            Bench b = new Bench(due);
            b.add(texts[i], Bench.BAD);
            b.count(0, places[i]);
            b.count(1, 0);
            b.count(2, 0);
            b.add("a", "1");
            b.count(0, places[i]);
        }
    }

    private static void aBadTextAddsNothing(Due due) {
        Bench b = new Bench(due, "p(1)", "p(2)");
        b.add("p(3):p(4),", Bench.BAD);
        b.add("p(5", Bench.BAD);
        b.count(2, 2);
        b.ask("p(X)", "2");
        b.next("3");
        b.value('X', "2");
        b.next(Bench.NONE);
        b.drop(2, Bench.BAD);
        b.add("p(6)", "3");
        b.ask("p(X)", "2");
        b.next("3");
        b.next("4");
        b.value('X', "6");
        b.next(Bench.NONE);
    }

    /** What an earlier, longer text left behind its end is no part of a text. */
    private static void shorterTexts(Due due) {
        Bench b = new Bench(due, "a(1):b,c");
        b.add("a(1", Bench.BAD);
        b.count(0, 3);
        b.add("a(1):b,", Bench.BAD);
        b.count(0, 7);
        b.add("a", "2");
        b.ask("a", "1");
        b.ask("a(1)", Bench.NONE);
    }

    private static void theTwelfth(Due due) {
        Bench b = new Bench(due, ELEVEN);
        b.add("p(3):z", "12");
        b.count(2, 12);
        b.ask("p(X)", "2");
        b.next("3");
        b.next(Bench.NONE);
        b.ask("p(3)", Bench.NONE);
    }

    /** "12 are there: IllegalStateException; the text is empty then, too". */
    private static void twelveAreThere(Due due) {
        Bench b = new Bench(due, ELEVEN);
        b.add("p(3)", "12");
        b.type("p(4)");
        b.count(1, 4);
        b.add("", Bench.STATE);
        b.count(1, 0);
        b.count(2, 12);
        b.add("p(4)", Bench.STATE);
        b.add("p(4)", Bench.STATE);
        b.count(2, 12);
        b.ask("p(X)", "2");
        b.next("3");
        b.next("4");
        b.value('X', "3");
        b.next(Bench.NONE);
        b.type("p(5)");
        b.add("", Bench.STATE);
        b.ask("p(X)", "2");
    }

    /** "But isn't read": a bad text tells no place, and is no other exception. */
    private static void isNotRead(Due due) {
        Bench b = new Bench(due, ELEVEN);
        b.add("a", "12");
        b.add("q(", Bench.STATE);
        b.add("", Bench.STATE);
        b.count(0, -1);
        b.ask("a:b", Bench.BAD);
        b.add("q(1,", Bench.STATE);
        b.count(0, 1);
        b.count(1, 0);
        b.ask("a", "1");
    }

    private static void roomAgain(Due due) {
        Bench b = new Bench(due, ELEVEN);
        b.add("a", "12");
        b.add("p(3)", Bench.STATE);
        b.drop(0, "gone");
        b.add("q(", Bench.BAD);
        b.count(0, 2);
        b.add("p(3)", "12");
        b.add("p(4)", Bench.STATE);
        b.ask("p(X)", "2");
        b.value('X', "2");
        b.next("3");
        b.value('X', "3");
        b.next(Bench.NONE);
    }

    /** A clause that came makes that nothing is asked any more; one that was refused doesn't. */
    private static void whatIsAsked(Due due) {
        Bench b = new Bench(due, ELEVEN);
        b.ask("p(X),Y?z,Y~1", "5");
        b.add("p(3):", Bench.BAD);
        b.add("", Bench.BAD);
        b.counts(1, 1, 1, 2);
        b.value('X', "1");
        b.sleeping('Y', 1);
        b.next("9");
        b.value('X', "2");
        b.add("p(3)", "12");
        b.nothingAsked();
        b.ask("p(X)", "2");
        b.add("p(4)", Bench.STATE);
        b.add("p(", Bench.STATE);
        b.counts(1, 1, 0, 1);
        b.value('X', "1");
        b.next("3");
        b.value('X', "2");
    }

    /** The most goals, the most variables and the deepest head that a text has room for. */
    private static void longClauses(Due due) {
        Bench b = new Bench(due, "c:!,!,!,!,!,!,!,!,!,!,!,!,!,!,!,!,!,!,!,!,!,!,!",
            "v:A=B,C=D,E=F,G=H,I=J,K=L,M=N,O=P,Q=R,S=T,U=V");
        b.count(2, 2);
        b.ask("c", "24");
        b.ask("v", "23");
        b.count(6, 22);
    }
}
