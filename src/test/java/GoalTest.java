/** GOALS TO DO: CALL, LESS, SLEEP and CUT. */
public final class GoalTest {
    /** u throws when it is done, v fails: so it is seen which of them was done first. */
    private static final String FIRST_U = Bench.UNFIT;
    private static final String FIRST_V = Bench.NONE;

    public static void main(String[] args) {
        Due due = new Due();
        fromTheFirstOn(due);
        noClause(due);
        oneOrMoreClauses(due);
        headsAndBodies(due);
        less(due);
        lessOfOthers(due);
        sleepOnATerm(due);
        sleepOnAVariable(due);
        cutInAQuestion(due);
        cutInABody(due);
        cutOfTheLastClause(due);
        cutOfAWokenCall(due);
        due.end();
    }

    /** "Done from the first on, each being a STEP". */
    private static void fromTheFirstOn(Due due) {
        Bench b = new Bench(due, "u:a<a", "b:c,d", "c", "d");
        b.ask("u,v", FIRST_U);
        b.ask("v,u", FIRST_V);
        b.ask("c,d", "2");
        b.ask("b,c", "4");
        b.ask("!,1<2,X?c,c", "4");
    }

    /** "None: it FAILS": neither the letter nor the number of arguments alone is enough. */
    private static void noClause(Due due) {
        Bench empty = new Bench(due);
        empty.ask("p", Bench.NONE);
        Bench b = new Bench(due, "p(1)", "q", "r(1,2):q");
        b.ask("p", Bench.NONE);
        b.ask("p(1,1)", Bench.NONE);
        b.ask("q(1)", Bench.NONE);
        b.ask("r(X)", Bench.NONE);
        b.ask("r(X,Y,Z)", Bench.NONE);
        b.ask("s", Bench.NONE);
        b.ask("q,r(X,Y)", "5");
    }

    /** "The first one is taken; if there are more, a CHOICE is left": others in between are none of them. */
    private static void oneOrMoreClauses(Due due) {
        Bench b = new Bench(due, "p(1)", "p", "q(1)", "p(2)", "q(2,2)", "p(3)");
        b.ask("p", "1");
        b.counts(1, 0, 0, 0);
        b.ask("q(X)", "2");
        b.counts(1, 0, 0, 1);
        b.ask("p(X)", "2");
        b.counts(1, 1, 0, 1);
        b.next("3");
        b.value('X', "2");
        b.counts(2, 1, 0, 1);
        b.next("4");
        b.value('X', "3");
        b.counts(3, 0, 0, 1);
        b.next(Bench.NONE);
        // The choice is left before the head is looked at.
        b.ask("p(3)", "4");
        b.counts(1, 0, 0, 0);
        b.ask("p(2)", "3");
        b.counts(1, 1, 0, 0);
    }

    /** "Its HEAD's ARGUMENTS are made SAME with the CALL's"; "its BODY's GOALS are put in front". */
    private static void headsAndBodies(Due due) {
        Bench b = new Bench(due, "f(g(X),X)", "p(X,Y):q(Y),q(X)", "q(1)", "q(2)", "u:a<a", "w:v");
        b.ask("f(Y,Z),Z=1", "5");
        b.value('Y', "g(1)");
        b.ask("f(g(1),2)", Bench.NONE);
        b.ask("f(g(Z),2)", "4");
        b.value('Z', "2");
        b.ask("p(X,Y)", "7");
        b.counts(1, 2, 0, 4);
        b.next("8");
        b.value('X', "2");
        b.value('Y', "1");
        b.ask("w,u", FIRST_V);
    }

    /** "It FAILS unless the first is below the second". */
    private static void less(Due due) {
        Bench b = new Bench(due);
        for (int one = 0; one <= 9; one++) {
            for (int other = 0; other <= 9; other++) {
                b.ask(one + "<" + other, one < other ? "1" : Bench.NONE);
            }
        }
        b.ask("X=1,Y=X,Y<2", "5");
        b.ask("X=2,Y=X,Y<2", Bench.NONE);
    }

    /** "Two digits (else UnsupportedOperationException)". */
    private static void lessOfOthers(Due due) {
        String[] others = {"X", "a", "z", "f(2)", "f(1,2)"};
        for (String other : others) {
            Bench b = new Bench(due);
            b.ask("1<" + other, Bench.UNFIT);
            b.ask(other + "<1", Bench.UNFIT);
            b.ask(other + "<" + other, Bench.UNFIT);
            b.ask("Y=" + other + ",0<Y", Bench.UNFIT);
            b.nothingAsked();
        }
    }

    /** "Its TERM is no VARIABLE: the CALL is put in front". */
    private static void sleepOnATerm(Due due) {
        Bench b = new Bench(due, "p(1)", "p(2)", "u:a<a");
        b.ask("1?p(1)", "3");
        b.ask("a?p(1)", "3");
        b.ask("f(X)?p(X)", "3");
        b.value('X', "1");
        b.counts(1, 1, 0, 1);
        b.ask("X=1,X?p(X)", "5");
        b.ask("1?v,u", FIRST_V);
        b.ask("1?u,v", FIRST_U);
        b.ask("1?v", Bench.NONE);
    }

    /** "Else the CALL sleeps on it, being the newest there". */
    private static void sleepOnAVariable(Due due) {
        Bench b = new Bench(due, "p(1)", "p(2)", "u:a<a");
        b.ask("X?v", "1");
        b.sleeping('X', 1);
        b.counts(1, 0, 0, 1);
        b.ask("X?p(X),X=2", "6");
        b.sleeping('X', 0);
        b.ask("X?p(X),X=3", Bench.NONE);
        b.ask("X?u,X?v,X=1", FIRST_U);
        b.ask("X?v,X?u,X=1", FIRST_V);
        b.ask("X=Y,Y?u,X?v,X=1", FIRST_U);
        b.ask("X?p(Y),p(X)", "5");
        b.counts(1, 2, 0, 2);
        // A call that woke sleeps no more, and can sleep anew.
        b.ask("X?p(Y),X=f(Z),Z?p(Y)", "6");
        b.sleeping('X', 0);
        b.sleeping('Z', 1);
    }

    /** "In a QUESTION: all". */
    private static void cutInAQuestion(Due due) {
        Bench b = new Bench(due, "p(1)", "p(2)", "p(3)");
        b.ask("!", "1");
        b.counts(1, 0, 0, 0);
        b.next(Bench.NONE);
        b.ask("p(X),p(Y),!", "5");
        b.counts(1, 0, 0, 2);
        b.next(Bench.NONE);
        b.ask("p(X),!,p(Y)", "5");
        b.counts(1, 1, 0, 2);
        b.next("6");
        b.value('X', "1");
        b.value('Y', "2");
        b.next("7");
        b.next(Bench.NONE);
        b.ask("p(X),!,z", Bench.NONE);
    }

    /** "The CHOICES left since the CALL that brought this GOAL in was begun go, its own among them". */
    private static void cutInABody(Due due) {
        Bench b = new Bench(due, "p(1)", "p(2)", "k(X):!,X=1", "k(2)", "t(X):p(Y),!", "t(X)", "q:k(X),p(X)", "q",
            "s:p(X),k(X),z", "s");
        b.ask("k(X)", "5");
        b.counts(1, 0, 0, 2);
        b.next(Bench.NONE);
        b.ask("k(2)", Bench.NONE);
        // Choices that were there before stay.
        b.ask("p(Z),t(1)", "7");
        b.counts(1, 1, 0, 3);
        b.next("13");
        b.value('Z', "2");
        b.next(Bench.NONE);
        // A cut in k leaves the choices of q, which called it.
        b.ask("q", "8");
        b.count(4, 2);
        b.next("9");
        b.count(4, 0);
        b.next(Bench.NONE);
        b.ask("s", "15");
        b.counts(1, 0, 0, 3);
    }

    private static void cutOfTheLastClause(Due due) {
        Bench b = new Bench(due, "p(1)", "p(2)", "k(1)", "k(X):p(X),!", "k(3)", "l(1)", "l(X):p(X),!");
        b.ask("p(Z),k(X)", "4");
        b.counts(1, 2, 0, 2);
        b.next("8");
        b.counts(2, 1, 0, 3);
        b.next("11");
        b.value('Z', "2");
        b.ask("p(Z),l(X)", "4");
        b.count(4, 2);
        b.next("8");
        b.count(4, 1);
        b.next("11");
        b.value('Z', "2");
        b.value('X', "1");
    }

    private static void cutOfAWokenCall(Due due) {
        Bench b = new Bench(due, "p(1)", "p(2)", "t(X):p(Y),!", "t(X)");
        b.ask("X?t(X),p(X)", "8");
        b.count(4, 1);
        b.next("14");
        b.value('X', "2");
        b.count(4, 0);
        b.next(Bench.NONE);
    }
}
