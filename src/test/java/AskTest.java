/** Promise 5: ask, how a question is read, and how its answers are sought. */
public final class AskTest {
    /** u throws when it is done, v fails: so it is seen which of them was done first. */
    private static final String FIRST_U = Bench.UNFIT;
    private static final String FIRST_V = Bench.NONE;

    public static void main(String[] args) {
        Due due = new Due();
        reading(due);
        inPlaceOfWhatIsAsked(due);
        makingSame(due);
        variablesAreNumbered(due);
        aparts(due);
        calls(due);
        lessGoals(due);
        sleepGoals(due);
        wakingOrder(due);
        cuts(due);
        goingBack(due);
        due.end();
    }

    private static void reading(Due due) {
        wrong(due, "", 0);
        wrong(due, "a:b", 1);
        wrong(due, "X", 1);
        wrong(due, "X,", 1);
        wrong(due, "7", 1);
        wrong(due, "a,", 2);
        wrong(due, "!!", 1);
        wrong(due, "!,X", 3);
        wrong(due, "X=", 2);
        wrong(due, "X=1,Y", 5);
        wrong(due, "X<Y<Z", 3);
        wrong(due, "X?Y", 2);
        wrong(due, "X?a(b(c(d(e(f(1))))))", 13);
        wrong(due, "a(b(c(d(e(f(1))))))=X", 11);
        wrong(due, "a(1,2,3,4)", 7);
        wrong(due, "a(1,2,3", 7);
        wrong(due, "a|b", 1);
        Bench b = new Bench(due);
        b.ask("a(b(c(d(e(f)))))=X,!,!,!,!,!,!,!,!,!,!,!,!,!,!,!", "17");
        b.value('X', "a(b(c(d(e(f)))))");
        b.count(0, -1);
    }

    private static void wrong(Due due, String text, int place) {
        Bench b = new Bench(due);
        b.ask(text, Bench.BAD);
        b.count(0, place);
        b.count(1, 0);
        b.ask("!", "1");
        b.count(0, place);
    }

    private static void inPlaceOfWhatIsAsked(Due due) {
        Bench b = new Bench(due, "p(1)", "p(2)");
        b.ask("p(X),Y~1", "4");
        b.counts(1, 1, 1, 2);
        b.ask("p(Z)", "2");
        b.counts(1, 1, 0, 1);
        b.value('X', Bench.NONE);
        b.next("3");
        b.value('Z', "2");
        b.ask("p(", Bench.BAD);
        b.counts(0, 0, 0, 0);
        b.next(Bench.NONE);
        b.ask("p(X)", "2");
        b.ask("p(3)", Bench.NONE);
        b.next(Bench.NONE);
        b.ask("p(X)", "2");
        b.ask("X<1", Bench.UNFIT);
        b.next(Bench.NONE);
    }

    private static void makingSame(Due due) {
        Bench b = new Bench(due);
        b.ask("X=X", "2");
        b.value('X', "_");
        b.ask("X=1", "2");
        b.value('X', "1");
        b.ask("1=X", "2");
        b.value('X', "1");
        b.ask("a=a", "2");
        b.ask("a=b", Bench.NONE);
        b.ask("1=2", Bench.NONE);
        b.ask("a=a(1)", Bench.NONE);
        b.ask("a(1)=a(1,2)", Bench.NONE);
        b.ask("f(X,g(Y))=f(g(Z),X)", "5");
        b.value('X', "g(_)");
        b.ask("f(X,g(Y,2))=f(g(1,Z),X)", "6");
        b.value('X', "g(1,2)");
        b.value('Y', "1");
        b.value('Z', "2");
        b.ask("f(X,X)=f(1,2)", Bench.NONE);
        b.ask("X=f(X),X=f(f(Y))", "6");
        b.value('Y', "f(f(f(f(f(f(f(f(f(f(f(f(f(f(f(f(f(f(f(f(f(f(f(f(f(f(f(f(f(f(f(f(f(f(f(f(f(f(f(f(");
        b.ask("X=f(X),Y=f(Y),X=Y", Bench.STATE);
        b.next(Bench.NONE);
    }

    private static void variablesAreNumbered(Due due) {
        Bench b = new Bench(due, "h(B,A):A?k,B?k,B?k,A=B");
        b.ask("Z?k,A?k,M=Z,A=M", "6");
        b.sleeping('A', 2);
        b.sleeping('M', 2);
        b.sleeping('Z', 2);
        b.counts(1, 0, 0, 3);
        b.ask("h(X,Y)", "8");
        b.sleeping('X', 3);
        b.sleeping('Y', 3);
        b.counts(1, 0, 0, 4);
        b.ask("a=a", "2");
        b.count(6, 0);
    }

    private static void aparts(Due due) {
        Bench b = new Bench(due, "c(1)", "c(2)", "e(X)");
        b.ask("a~b", "2");
        b.count(5, 0);
        b.ask("a~a", Bench.NONE);
        b.ask("X~X", Bench.NONE);
        b.ask("X~Y", "2");
        b.count(5, 1);
        b.value('X', "_");
        b.ask("X~Y,X=Y", Bench.NONE);
        b.ask("f(X,Y)~f(1,2)", "4");
        b.value('X', "_");
        b.value('Y', "_");
        b.ask("f(X,Y)~f(1,2),X=1", "9");
        b.count(5, 1);
        b.ask("f(X,Y)~f(1,2),X=1,Y=2", Bench.NONE);
        b.ask("f(X,Y)~f(1,2),Y=3", "9");
        b.count(5, 0);
        b.ask("X~1,Y~2,X=5", "8");
        b.count(5, 1);
        // The test of X fails at 1, so that of Y behind it is not made.
        b.ask("X~1,Y~2,c(X)", "10");
        b.value('X', "2");
        b.count(5, 1);
        // Nothing of the question is bound by e, but a variable of its own is.
        b.ask("X~1,e(2)", "5");
        b.ask("X~1,e(X)", "5");
        b.ask("X~1,2=2", "4");
        b.ask("X~1,Y=Y", "4");
        // A try neither moves sleepers nor wakes them.
        b.ask("X?c(X),Y?c(Y),X~Y,X~1", "6");
        b.sleeping('X', 1);
        b.sleeping('Y', 1);
        b.count(5, 2);
    }

    private static void calls(Due due) {
        Bench b = new Bench(due, "p(1)", "p", "p(X,Y):q(Y),q(X)", "q(1)", "q(2)", "p(2)", "f(g(X),X)");
        b.ask("p", "1");
        b.counts(1, 0, 0, 0);
        b.ask("p(X)", "2");
        b.counts(1, 1, 0, 1);
        b.ask("p(X,X,X)", Bench.NONE);
        b.ask("z", Bench.NONE);
        b.ask("p(X,Y)", "7");
        b.counts(1, 2, 0, 4);
        b.value('X', "1");
        b.next("8");
        b.value('X', "2");
        b.value('Y', "1");
        b.ask("f(Y,Z),Z=1", "5");
        b.value('Y', "g(1)");
        b.ask("f(g(1),2)", Bench.NONE);
        b.ask("f(g(Z),2)", "4");
        b.value('Z', "2");
    }

    private static void lessGoals(Due due) {
        Bench b = new Bench(due);
        b.ask("1<2", "1");
        b.ask("0<9", "1");
        b.ask("2<1", Bench.NONE);
        b.ask("1<1", Bench.NONE);
        b.ask("X=1,Y=X,Y<2", "5");
        b.ask("X<1", Bench.UNFIT);
        b.ask("1<X", Bench.UNFIT);
        b.ask("a<1", Bench.UNFIT);
        b.ask("1<a", Bench.UNFIT);
        b.ask("1<f(2)", Bench.UNFIT);
        b.next(Bench.NONE);
    }

    private static void sleepGoals(Due due) {
        Bench b = new Bench(due, "p(1)", "p(2)");
        b.ask("1?p(1)", "3");
        b.ask("f(X)?p(X)", "3");
        b.value('X', "1");
        b.counts(1, 1, 0, 1);
        b.ask("X?p(X)", "1");
        b.sleeping('X', 1);
        b.ask("X?p(X),X=2", "6");
        b.sleeping('X', 0);
        b.ask("X?p(X),X=3", Bench.NONE);
        b.ask("X?p(X),Y?p(Y),X=Y", "4");
        b.sleeping('Y', 2);
        b.ask("X?p(Y),p(X)", "5");
        b.counts(1, 2, 0, 2);
        b.ask("X=1,X?p(X)", "5");
        // The call that is put in front comes before those after it.
        b.ask("1?z,1<a", Bench.NONE);
    }

    private static void wakingOrder(Due due) {
        Bench b = new Bench(due, "u:a<a", "h(1):v", "i(1):u");
        b.ask("X?u,X?v,X=1", FIRST_U);
        b.ask("X?v,X?u,X=1", FIRST_V);
        b.ask("X?u,Y?v,f(g(Y),X)=f(g(1),2)", FIRST_V);
        b.ask("X?v,Y?u,f(g(Y),X)=f(g(1),2)", FIRST_U);
        b.ask("Y?u,X?v,X=Y,X=1", FIRST_V);
        b.ask("Y?v,X?u,X=Y,Y=1", FIRST_U);
        b.ask("X?v,W?u,X=W,X=1", FIRST_U);
        b.ask("X?u,X=1,v", FIRST_U);
        b.ask("X?v,X=1,u", FIRST_V);
        b.ask("X?u,h(X)", FIRST_U);
        b.ask("X?v,i(X)", FIRST_V);
        b.ask("X~1,X?u,X=1", Bench.NONE);
        b.ask("X~1,X?u,X=2", FIRST_U);
        b.ask("X?u,f(X,1)=f(1,2)", Bench.NONE);
    }

    private static void cuts(Due due) {
        Bench b = new Bench(due, "p(1)", "p(2)", "p(3)", "t(X):p(Y),!", "k(X):!,X=1", "k(2)", "q:k(X),p(X)", "q");
        b.ask("!", "1");
        b.ask("p(X),p(Y),!", "5");
        b.counts(1, 0, 0, 2);
        b.ask("p(X),!,p(Y)", "5");
        b.counts(1, 1, 0, 2);
        b.next("6");
        b.value('X', "1");
        b.value('Y', "2");
        b.ask("k(X)", "5");
        b.count(4, 0);
        b.next(Bench.NONE);
        b.ask("p(Z),t(1)", "7");
        b.count(4, 1);
        b.next("13");
        b.value('Z', "2");
        b.ask("X?t(X),p(X)", "8");
        b.count(4, 1);
        b.next("14");
        b.value('X', "2");
        b.ask("q", "8");
        b.count(4, 2);
    }

    private static void goingBack(Due due) {
        Bench b = new Bench(due, "b(X,X)", "b(X,Y):Y?s,X~1", "b(1,2)", "s");
        b.ask("X?s,Y?s,Y?s,X~Z,b(X,Y)", "9");
        b.sleeping('X', 3);
        b.counts(1, 1, 1, 4);
        b.next("15");
        b.sleeping('X', 1);
        b.sleeping('Y', 3);
        b.counts(2, 1, 2, 6);
        b.next("21");
        b.sleeping('X', 0);
        b.value('Y', "2");
        b.value('Z', "_");
        b.counts(3, 0, 1, 6);
        b.next(Bench.NONE);
        Bench c = new Bench(due, "c(2)", "c(1)", "c(3)");
        c.ask("X~1,c(X)", "5");
        c.counts(1, 1, 0, 1);
        c.next("9");
        c.value('X', "3");
        c.counts(2, 0, 0, 1);
        // What was settled before the choice stays so.
        c.ask("X~1,X=2,c(Y)", "7");
        c.next("8");
        c.counts(2, 1, 0, 2);
    }
}
