/** TESTING an APART: when it is made, and when something was bound. */
public final class ApartTest {
    public static void main(String[] args) {
        Due due = new Due();
        settledAtOnce(due);
        waitsOn(due);
        triesAreFreed(due);
        nothingWakes(due);
        theOldestFirst(due);
        behindAFailedTest(due);
        whenAClauseIsTaken(due);
        due.end();
    }

    /** "If that FAILED, it waits no more; if it didn't and nothing was BOUND, the TEST FAILS". */
    private static void settledAtOnce(Due due) {
        Bench b = new Bench(due);
        b.ask("a~b", "2");
        b.count(5, 0);
        b.ask("f(X)~g(X)", "2");
        b.count(5, 0);
        b.ask("f(X,1)~f(Y,2)", "4");
        b.count(5, 0);
        b.ask("a~a", Bench.NONE);
        b.ask("X~X", Bench.NONE);
        b.ask("f(X,Y)~f(X,Y)", Bench.NONE);
        b.ask("X=Y,X~Y", Bench.NONE);
        b.ask("X=1,X~1", Bench.NONE);
        b.ask("X=1,X~2", "4");
        b.count(5, 0);
    }

    /** "Else it waits on", until it is settled. */
    private static void waitsOn(Due due) {
        Bench b = new Bench(due);
        b.ask("X~Y", "2");
        b.count(5, 1);
        b.ask("X~Y,X=Y", Bench.NONE);
        b.ask("X~Y,X=1", "5");
        b.count(5, 1);
        b.ask("X~Y,X=1,Y=2", "8");
        b.count(5, 0);
        b.ask("X~Y,X=1,Y=1", Bench.NONE);
        b.ask("f(X,Y)~f(1,2),X=1", "9");
        b.count(5, 1);
        b.ask("f(X,Y)~f(1,2),X=1,Y=2", Bench.NONE);
        b.ask("f(X,Y)~f(1,2),Y=3", "9");
        b.count(5, 0);
        // Once settled, it is not tested again.
        b.ask("X~1,X=2,Y=3", "7");
        b.count(5, 0);
    }

    /** "What was BOUND is freed again". */
    private static void triesAreFreed(Due due) {
        Bench b = new Bench(due);
        b.ask("f(X,Y)~f(1,2)", "4");
        b.value('X', "_");
        b.value('Y', "_");
        b.ask("f(X,Y)~f(Y,2),Z=1", "9");
        b.value('X', "_");
        b.value('Y', "_");
        b.ask("f(X,1)~f(1,2),X=3", "6");
        b.value('X', "3");
    }

    /** "Nothing WAKES, nothing is TESTED", and no goal is moved. */
    private static void nothingWakes(Due due) {
        Bench b = new Bench(due);
        b.ask("X?z,X~1", "3");
        b.sleeping('X', 1);
        b.ask("X?z,Y?z,X~Y", "4");
        b.sleeping('X', 1);
        b.sleeping('Y', 1);
        b.ask("X~1,X~2,X~3", "6");
        b.count(5, 3);
    }

    /** "All APARTS waiting are TESTED, the oldest first": what each costs tells which of them were. */
    private static void theOldestFirst(Due due) {
        Bench b = new Bench(due, "c(1)", "c(2)", "c(3)");
        b.ask("X~1,f(X,Y)~f(2,2),c(X)", "14");
        b.value('X', "2");
        b.counts(1, 1, 1, 2);
        b.ask("f(X,Y)~f(2,2),X~1,c(X)", "16");
        b.value('X', "2");
    }

    /** "The TEST FAILS, and so does the goal (APARTS behind aren't TESTED then)". */
    private static void behindAFailedTest(Due due) {
        Bench b = new Bench(due, "c(1)", "c(2)");
        b.ask("X~1,Y~2,c(X)", "10");
        b.value('X', "2");
        b.count(5, 1);
        b.ask("Y~2,X~1,c(X)", "11");
        b.count(5, 1);
        // One that was settled before the failing one waits again.
        b.ask("X~2,X~1,c(X)", Bench.NONE);
        b.ask("X~3,X~1,c(X)", "11");
        b.count(5, 0);
    }

    private static void whenAClauseIsTaken(Due due) {
        Bench b = new Bench(due, "c(1):d", "c(2):e", "d", "e");
        b.ask("X~1,c(X)", "8");
        b.value('X', "2");
        b.counts(1, 0, 0, 1);
        b.ask("X?d,X~1,c(X)", "10");
        b.value('X', "2");
    }
}
