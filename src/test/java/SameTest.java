/** BINDING and MAKING TERMS SAME. */
public final class SameTest {
    /** u throws when it is done, v fails: so it is seen which of them was done first. */
    private static final String FIRST_U = Bench.UNFIT;
    private static final String FIRST_V = Bench.NONE;

    public static void main(String[] args) {
        Due due = new Due();
        values(due);
        numbersOfAQuestion(due);
        numbersOfAClause(due);
        numbersOfUses(due);
        theSameVariable(due);
        twoVariables(due);
        aVariableAndATerm(due);
        aVariableInItsTerm(due);
        lettersAndArguments(due);
        failsAtOnce(due);
        eachWholly(due);
        nothingBound(due);
        wakingAfterTheTests(due);
        due.end();
    }

    /** "What is said of a TERM is said of what it stands for at last". */
    private static void values(Due due) {
        Bench b = new Bench(due);
        b.ask("A=B,B=C,C=D,D=E,E=5,A<9,1<B,C?z", Bench.NONE);
        b.ask("A=B,B=C,C=D,D=E,E=5,A<9,1<B", "12");
        for (char v = 'A'; v <= 'E'; v++) {
            b.value(v, "5");
        }
        b.ask("X=f(Y),Y=g(Z),Z=1,X=f(g(1))", "10");
        b.value('X', "f(g(1))");
    }

    /** "Those of a QUESTION in the order of A .. Z": the one with the greater number brings its goals behind. */
    private static void numbersOfAQuestion(Due due) {
        Bench b = new Bench(due, "u:a<a");
        b.ask("Z?v,A?u,Z=A,A=1", FIRST_U);
        b.ask("Z?u,A?v,Z=A,A=1", FIRST_V);
        b.ask("Z?v,A?u,A=Z,Z=1", FIRST_U);
        b.ask("N?u,M?v,f(N)=f(M),N=1", FIRST_V);
    }

    /** "Those of a CLAUSE likewise", and after those that were there before. */
    private static void numbersOfAClause(Due due) {
        Bench b = new Bench(due, "u:a<a", "c:Z?u,A?v,Z=A,Z=1", "d:Z?v,A?u,A=Z,Z=1", "e(Z):A?v,B=Z,B?u,A=B,A=1");
        b.ask("c", FIRST_V);
        b.ask("d", FIRST_U);
        // A of the clause is greater than X of the question.
        b.ask("e(X)", FIRST_U);
    }

    /** "Anew for each use of it". */
    private static void numbersOfUses(Due due) {
        Bench b = new Bench(due, "u:a<a", "n(f(A))", "m(X,Y):n(X),n(Y)");
        b.ask("n(X),n(Y),X=Y", "7");
        b.value('X', "f(_)");
        b.counts(1, 0, 0, 4);
        b.ask("n(X),n(Y),X=f(1)", "7");
        b.value('X', "f(1)");
        b.value('Y', "f(_)");
        // P is of the earlier use, Q of the later one.
        b.ask("m(X,Y),X=f(P),Y=f(Q),P?u,Q?v,P=Q,Q=1", FIRST_U);
        b.ask("m(X,Y),X=f(P),Y=f(Q),P?v,Q?u,P=Q,Q=1", FIRST_V);
    }

    /** "The same VARIABLE: nothing": a STEP, but nothing is bound, tested or woken. */
    private static void theSameVariable(Due due) {
        Bench b = new Bench(due);
        b.ask("X=X", "2");
        b.value('X', "_");
        b.ask("X?z,X~1,X=X", "5");
        b.sleeping('X', 1);
        b.count(5, 1);
        b.ask("X=Y,X?z,X~1,Y=X", "7");
        b.sleeping('X', 1);
        b.ask("f(X,X)=f(X,X)", "4");
    }

    /** "Goals sleeping on it sleep on that one now, after those there". */
    private static void twoVariables(Due due) {
        Bench b = new Bench(due, "u:a<a");
        b.ask("X=Y", "2");
        b.value('X', "_");
        b.value('Y', "_");
        b.ask("X?z,Y?z,Y?z,X=Y", "5");
        b.sleeping('X', 3);
        b.sleeping('Y', 3);
        b.ask("Y?z,X=Y", "3");
        b.sleeping('X', 1);
        b.ask("X?z,Y=X", "3");
        b.sleeping('Y', 1);
        b.ask("Y?u,X?v,X=Y,X=1", FIRST_V);
        b.ask("Y?v,X?u,X=Y,Y=1", FIRST_U);
        // Goals that come later come behind those that were moved.
        b.ask("Y?u,X=Y,X?v,Y=1", FIRST_U);
        b.ask("Y?v,X=Y,Y?u,X=1", FIRST_V);
        // Moved twice: those of Z stand behind those of Y, which stand behind those of X.
        b.ask("Z?u,Y?v,Y=Z,X=Y,Z=1", FIRST_V);
        b.ask("Z?v,Y?v,X?u,Y=Z,X=Y,Z=1", FIRST_U);
    }

    private static void aVariableAndATerm(Due due) {
        Bench b = new Bench(due);
        b.ask("X=1", "2");
        b.value('X', "1");
        b.ask("1=X", "2");
        b.value('X', "1");
        b.ask("f(X,Y)=f(g(Y),a)", "4");
        b.value('X', "g(a)");
        b.value('Y', "a");
        b.ask("X?z,X=1", Bench.NONE);
        b.ask("X?z,1=X", Bench.NONE);
    }

    /** "It's BOUND to that (also if it's in it)". */
    private static void aVariableInItsTerm(Due due) {
        Bench b = new Bench(due, "k(X,f(X))");
        b.ask("X=f(X)", "2");
        b.letter(23, -1, "80");
        b.ask("f(X)=X", "2");
        b.letter(23, 78, 'f');
        b.ask("k(X,X)", "3");
        b.letter(23, 79, '(');
        b.ask("X=f(Y),Y=g(X)", "4");
        b.letter(23, 0, 'f');
        b.letter(23, 2, 'g');
        b.letter(24, 0, 'g');
        b.letter(24, 2, 'f');
        b.ask("X=f(X),X=f(f(Y))", "6");
        b.letter(24, -1, "80");
        b.ask("X=f(X),Y=f(Y),X=Y", Bench.STATE);
        b.nothingAsked();
    }

    private static void lettersAndArguments(Due due) {
        Bench b = new Bench(due);
        b.ask("a=a", "2");
        b.ask("a=b", Bench.NONE);
        b.ask("1=1", "2");
        b.ask("1=2", Bench.NONE);
        b.ask("1=a", Bench.NONE);
        b.ask("a=a(1)", Bench.NONE);
        b.ask("a(1)=a", Bench.NONE);
        b.ask("a(1)=a(1,2)", Bench.NONE);
        b.ask("a(1,2)=a(1,2,3)", Bench.NONE);
        b.ask("a(1,2,3)=a(1,2,3)", "5");
        b.ask("a(1,2,3)=a(1,2,4)", Bench.NONE);
        b.ask("a(X)=b(X)", Bench.NONE);
    }

    /** "Else it FAILS at once": what stands behind costs no STEP, and what was bound and woken is forgotten. */
    private static void failsAtOnce(Due due) {
        Bench b = new Bench(due, "p(f(1,2,3))", "p(f(2,3,4))", "p(X)", "u:a<a");
        b.ask("p(f(2,X,Y))", "7");
        b.value('X', "3");
        b.next("8");
        b.value('X', "_");
        b.ask("p(f(X,3,Y))", "8");
        b.value('X', "2");
        b.ask("X?u,f(X,1)=f(1,2)", Bench.NONE);
        b.ask("X~Y,p(f(X,3,Z))", "11");
    }

    /** "The PAIRS of ARGUMENTS, from the first on, each wholly, come next". */
    private static void eachWholly(Due due) {
        Bench b = new Bench(due, "u:a<a");
        b.ask("f(X,g(Y))=f(g(Z),X)", "5");
        b.value('X', "g(_)");
        b.ask("f(X,g(Y,2))=f(g(1,Z),X)", "6");
        b.value('X', "g(1,2)");
        b.value('Y', "1");
        b.value('Z', "2");
        b.ask("f(X,X)=f(1,2)", Bench.NONE);
        b.ask("X?u,Y?v,f(g(Y),X)=f(g(1),2)", FIRST_V);
        b.ask("X?v,Y?u,f(g(Y),X)=f(g(1),2)", FIRST_U);
        b.ask("X?u,Y?v,f(1,g(2,X),Y)=f(1,g(2,1),2)", FIRST_U);
    }

    /** "If it didn't FAIL and something was BOUND": if nothing was, no APART is tested. */
    private static void nothingBound(Due due) {
        Bench b = new Bench(due, "e(X)", "e");
        b.ask("X~1,2=2", "4");
        b.ask("X~1,f(1,Y)=f(1,Y)", "6");
        b.ask("X~1,e", "3");
        b.ask("X~1,Y=2", "5");
        b.ask("X~1,e(2)", "5");
        b.ask("X~1,e(X)", "5");
        b.count(5, 1);
    }

    /** "Then goals that WOKE are put in front of those TO DO, in the order in which they WOKE". */
    private static void wakingAfterTheTests(Due due) {
        Bench b = new Bench(due, "u:a<a", "h(1):v", "i(1):u");
        b.ask("X?u,X?v,X=1", FIRST_U);
        b.ask("X?v,X?u,X=1", FIRST_V);
        b.ask("X?u,Y?v,f(Y,X)=f(1,2)", FIRST_V);
        b.ask("X?u,X=1,v", FIRST_U);
        b.ask("X?v,X=1,u", FIRST_V);
        b.ask("X?u,h(X)", FIRST_U);
        b.ask("X?v,i(X)", FIRST_V);
        b.ask("X~1,X?u,X=1", Bench.NONE);
        b.ask("X~1,X?u,X=2", FIRST_U);
    }
}
