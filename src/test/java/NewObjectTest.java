/** Promise 1: a new object, and what a call that throws leaves as it was. */
public final class NewObjectTest {
    public static void main(String[] args) {
        Due due = new Due();
        newObject(due);
        objectsAreApart(due);
        whatThrowsChangesNothingElse(due);
        theFirstListedIsThrown(due);
        due.end();
    }

    private static void newObject(Due due) {
        Bench b = new Bench(due);
        int[] counts = {-1, 0, 0, 0, 0, 0, 0, -1};
        for (int what = 0; what < counts.length; what++) {
            b.count(what, counts[what]);
        }
        b.next(Bench.NONE);
        b.sleeping('A', -1);
        b.value('A', Bench.NONE);
        b.drop(0, Bench.BAD);
    }

    private static void objectsAreApart(Due due) {
        Bench one = new Bench(due, "p(1)");
        Bench other = new Bench(due);
        one.ask("p(X)", "2");
        other.ask("p(X)", Bench.NONE);
        one.value('X', "1");
        one.count(2, 1);
        other.count(2, 0);
    }

    private static void whatThrowsChangesNothingElse(Due due) {
        Bench b = new Bench(due, "p(1)", "p(2)");
        b.ask("p(X),X~5,Y?p(Y)", "5");
        b.type(Bench.eight("a b"), Bench.BAD);
        b.add("p(", Bench.BAD);
        b.drop(2, Bench.BAD);
        b.letter(26, 0, Bench.BAD);
        b.letter(23, 1, Bench.NONE);
        b.value('X', "1");
        b.sleeping('Y', 1);
        b.count(0, 2);
        b.count(1, 0);
        b.count(2, 2);
        b.counts(1, 1, 0, 2);
        b.next("9");
        b.value('X', "2");
        b.type("p(3)");
        b.next(Bench.NONE);
        b.count(0, 2);
        b.count(1, 4);
        b.count(2, 2);
        b.counts(0, 0, 0, 0);
    }

    private static void theFirstListedIsThrown(Due due) {
        Bench b = new Bench(due);
        b.letter(26, 5, Bench.BAD);
        b.letter(-1, -7, Bench.BAD);
        b.type("aaaaaaaaaaaaaaaaaaaaaaaaaaaaaaaaaaaaaaaaaaaaaaaa");
        b.type(Bench.eight("a a"), Bench.BAD);
        b.type(Bench.eight("a"), Bench.STATE);
    }
}
