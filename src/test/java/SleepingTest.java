/** Promise 8: sleeping. */
public final class SleepingTest {
    public static void main(String[] args) {
        Due due = new Due();
        howMany(due);
        moved(due);
        wrongNumbers(due);
        due.end();
    }

    private static void howMany(Due due) {
        Bench b = new Bench(due, "p(1)", "p(2)", "p(X):X?q,X?q");
        b.ask("X?p(X),X?p(1),X?q,Y=Z,W=1", "7");
        b.sleeping('X', 3);
        b.sleeping('Y', 0);
        b.sleeping('Z', 0);
        b.sleeping('W', 0);
        b.sleeping('A', -1);
        b.ask("X?p(Y),p(X)", "5");
        b.sleeping('X', 0);
        b.sleeping('Y', 0);
        b.next("6");
        b.next("9");
        b.value('Y', "_");
        b.sleeping('Y', 2);
    }

    private static void moved(Due due) {
        Bench b = new Bench(due, "b(X,X)", "b(X,Y)", "b(X,Y):Y?q");
        b.ask("X?q,Y?q,Y?q,b(X,Y)", "6");
        b.sleeping('X', 3);
        b.sleeping('Y', 3);
        b.next("8");
        b.sleeping('X', 1);
        b.sleeping('Y', 2);
        b.next("11");
        b.sleeping('X', 1);
        b.sleeping('Y', 3);
        b.ask("Y?q,b(X,Y),X?q", "5");
        b.sleeping('X', 2);
        b.sleeping('Y', 2);
        b.next("8");
        b.sleeping('X', 1);
        b.sleeping('Y', 1);
        b.next("12");
        b.sleeping('X', 1);
        b.sleeping('Y', 2);
        b.ask("X=Y", "2");
        b.sleeping('X', 0);
        b.sleeping('Y', 0);
        b.ask("X?q,Z?q,Z=f(Y)", Bench.NONE);
        b.sleeping('X', -1);
    }

    private static void wrongNumbers(Due due) {
        Bench b = new Bench(due);
        b.sleeping(-1, Bench.BAD);
        b.sleeping(26, Bench.BAD);
        b.sleeping('A', -1);
        b.sleeping('Z', -1);
        b.ask("A?b,Z?b", "2");
        b.sleeping('A', 1);
        b.sleeping('Z', 1);
        b.sleeping('B', -1);
        b.sleeping(26, Bench.BAD);
        b.sleeping(Integer.MIN_VALUE, Bench.BAD);
    }
}
