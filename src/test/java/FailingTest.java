/** FAILING: all goes back to the newest CHOICE. */
public final class FailingTest {
    public static void main(String[] args) {
        Due due = new Due();
        whatWasBound(due);
        whatWasPutToSleep(due);
        whatWasMoved(due);
        whatWoke(due);
        whatWaited(due);
        theNewestChoice(due);
        theLastClause(due);
        noChoice(due);
        noGoals(due);
        variablesOfClauses(due);
        due.end();
    }

    /** "What was BOUND ... since is as it was", and what was bound before stays so. */
    private static void whatWasBound(Due due) {
        Bench b = new Bench(due, "b(X,Y):X=Y", "b(f(X),X)", "b(X,Y)");
        b.ask("Z=1,b(X,Y)", "7");
        b.value('X', "_");
        b.value('Y', "_");
        b.next("9");
        b.value('X', "f(_)");
        b.value('Y', "_");
        b.next("11");
        b.value('X', "_");
        b.value('Y', "_");
        b.value('Z', "1");
        b.next(Bench.NONE);
    }

    private static void whatWasPutToSleep(Due due) {
        Bench b = new Bench(due, "b(X):X?z,X?z", "b(X)", "b(X):X?z");
        b.ask("X?z,b(X)", "5");
        b.sleeping('X', 3);
        b.next("6");
        b.sleeping('X', 1);
        b.next("8");
        b.sleeping('X', 2);
        b.ask("b(X)", "4");
        b.sleeping('X', 2);
        b.next("5");
        b.sleeping('X', 0);
        b.next("7");
        b.sleeping('X', 1);
        // Those of another variable stay.
        b.ask("A?z,X?z,b(X),X?z", "7");
        b.sleeping('X', 4);
        b.next("9");
        b.sleeping('X', 2);
        b.sleeping('A', 1);
        b.next("12");
        b.sleeping('X', 3);
        b.sleeping('A', 1);
    }

    private static void whatWasMoved(Due due) {
        Bench b = new Bench(due, "b(X,X)", "b(X,Y):Y?s", "b(X,Y)", "s");
        b.ask("X?s,Y?s,Y?s,b(X,Y)", "6");
        b.sleeping('X', 3);
        b.sleeping('Y', 3);
        b.next("9");
        b.sleeping('X', 1);
        b.sleeping('Y', 3);
        b.next("11");
        b.sleeping('X', 1);
        b.sleeping('Y', 2);
    }

    private static void whatWoke(Due due) {
        Bench b = new Bench(due, "b(1)", "b(X)", "b(2)", "s");
        b.ask("X?s,X?s,b(X)", "6");
        b.sleeping('X', 0);
        b.next("7");
        b.sleeping('X', 2);
        b.next("10");
        b.sleeping('X', 0);
        b.next(Bench.NONE);
    }

    private static void whatWaited(Due due) {
        Bench b = new Bench(due, "b(2)", "b(X):X~3", "b(1)", "b(X)");
        b.ask("X~1,b(X)", "5");
        b.counts(1, 1, 0, 1);
        b.next("9");
        b.counts(2, 1, 2, 2);
        b.next("13");
        b.counts(3, 0, 1, 3);
        b.next(Bench.NONE);
        // Others wait on.
        b.ask("Y~9,X~1,b(X)", "8");
        b.counts(1, 1, 1, 2);
        b.next("13");
        b.counts(2, 1, 3, 3);
        b.next("19");
        b.counts(3, 0, 2, 4);
        // What was settled before the choice stays so.
        b.ask("X~1,X=2,b(Y)", "7");
        b.next("10");
        b.counts(2, 1, 1, 3);
    }

    private static void theNewestChoice(Due due) {
        Bench b = new Bench(due, "p(1)", "p(2)");
        b.ask("p(X),p(Y)", "4");
        b.value('X', "1");
        b.value('Y', "1");
        b.next("5");
        b.value('X', "1");
        b.value('Y', "2");
        b.next("8");
        b.value('X', "2");
        b.value('Y', "1");
        b.next("9");
        b.value('X', "2");
        b.value('Y', "2");
        b.next(Bench.NONE);
    }

    /** "If it's the last, the CHOICE goes". */
    private static void theLastClause(Due due) {
        Bench b = new Bench(due, "p(1)", "p(2)", "p(3)", "q", "q");
        b.ask("q,p(X)", "3");
        b.count(4, 2);
        b.next("4");
        b.count(4, 2);
        b.next("5");
        b.count(4, 1);
        b.next("7");
        b.count(4, 1);
        b.next("8");
        b.count(4, 1);
        b.next("9");
        b.count(4, 0);
        b.next(Bench.NONE);
    }

    /** "No CHOICE: there's no (further) ANSWER". */
    private static void noChoice(Due due) {
        Bench b = new Bench(due, "p(1)");
        b.ask("p(2)", Bench.NONE);
        b.nothingAsked();
        b.ask("p(X)", "2");
        b.next(Bench.NONE);
        b.nothingAsked();
        b.ask("X=1", "2");
        b.next(Bench.NONE);
        b.nothingAsked();
    }

    /** "No GOALS TO DO: an ANSWER", though some sleep and some wait. */
    private static void noGoals(Due due) {
        Bench b = new Bench(due, "p(1)");
        b.ask("X?z,Y~1", "3");
        b.counts(1, 0, 1, 2);
        b.sleeping('X', 1);
    }

    /** The variables of a clause that failed came to be, and those of the next one are other ones. */
    private static void variablesOfClauses(Due due) {
        Bench b = new Bench(due, "p(A,B,1):C=D", "p(A,B,2):C=D", "p(A,B,C):A=B");
        b.ask("p(X,Y,2)", "9");
        b.counts(1, 1, 0, 10);
        b.next("14");
        b.counts(2, 0, 0, 13);
    }
}
