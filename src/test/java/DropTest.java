/** Promise 4: drop. */
public final class DropTest {
    public static void main(String[] args) {
        Due due = new Due();
        dropped(due, 0, "2", "3");
        dropped(due, 1, "1", "3");
        dropped(due, 2, "1", "2");
        notThere(due);
        roomIsUsedAgain(due);
        due.end();
    }

    private static void dropped(Due due, int i, String first, String second) {
        Bench b = new Bench(due, "p(1)", "p(2)", "p(3)");
        b.ask("p(X)", "2");
        b.drop(i, "gone");
        b.next(Bench.NONE);
        b.counts(0, 0, 0, 0);
        b.count(2, 2);
        b.ask("p(X)", "2");
        b.value('X', first);
        b.next("3");
        b.value('X', second);
        b.next(Bench.NONE);
    }

    private static void notThere(Due due) {
        Bench b = new Bench(due, "p(1)", "p(2)");
        b.ask("p(X)", "2");
        b.drop(-1, Bench.BAD);
        b.drop(2, Bench.BAD);
        b.drop(Integer.MAX_VALUE, Bench.BAD);
        b.drop(Integer.MIN_VALUE, Bench.BAD);
        b.count(2, 2);
        b.next("3");
        b.value('X', "2");
        b.drop(1, "gone");
        b.drop(1, Bench.BAD);
        b.drop(0, "gone");
        b.drop(0, Bench.BAD);
        b.count(2, 0);
    }

    private static void roomIsUsedAgain(Due due) {
        Bench b = new Bench(due, "p(1)", "p(f(X,Y)):X=Y");
        for (int i = 0; i < 40; i++) {
            b.drop(0, "gone");
            b.add(i % 2 == 0 ? "p(1)" : "p(f(X,Y)):X=Y", "2");
            b.ask("p(f(Z,1))", i % 2 == 0 ? "6" : "7");
            b.value('Z', "1");
            b.count(4, i % 2 == 0 ? 1 : 0);
        }
    }
}
