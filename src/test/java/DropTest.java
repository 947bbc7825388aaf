/** Promise 4: drop. */
public final class DropTest {
    public static void main(String[] args) {
        Due due = new Due();
        dropped(due, 0, "2", "3");
        dropped(due, 1, "1", "3");
        dropped(due, 2, "1", "2");
        noneThere(due);
        notThere(due);
        oneBehindTheLast(due);
        allTwelve(due);
        whatIsAsked(due);
        textAndPlaceStay(due);
        roomIsUsedAgain(due);
        due.end();
    }

    /** "CLAUSE i (from 0) goes": the others keep their order. */
    private static void dropped(Due due, int i, String first, String second) {
        Bench b = new Bench(due, "p(1)", "p(2)", "p(3)");
        b.ask("p(X)", "2");
        b.drop(i, "gone");
        b.nothingAsked();
        b.count(2, 2);
        b.ask("p(X)", "2");
        b.value('X', first);
        b.next("3");
        b.value('X', second);
        b.next(Bench.NONE);
    }

    /** "It isn't there: bad". */
    private static void noneThere(Due due) {
        Bench b = new Bench(due);
        for (int i : new int[] {0, 1, -1, 11, 12, Integer.MAX_VALUE, Integer.MIN_VALUE}) {
            b.drop(i, Bench.BAD);
        }
        b.count(2, 0);
        b.add("p(1)", "1");
        b.drop(0, "gone");
        b.drop(0, Bench.BAD);
        b.count(2, 0);
        b.ask("p(X)", Bench.NONE);
    }

    private static void notThere(Due due) {
        Bench b = new Bench(due, "p(1)", "p(2)");
        b.ask("p(X)", "2");
        for (int i : new int[] {-1, -2, 2, 3, 11, 12, Integer.MAX_VALUE, Integer.MIN_VALUE, 1 << 8, 1 << 16, 1 << 24}) {
            b.drop(i, Bench.BAD);
        }
        b.count(2, 2);
        b.counts(1, 1, 0, 1);
        b.next("3");
        b.value('X', "2");
        b.next(Bench.NONE);
        b.ask("p(X)", "2");
        b.value('X', "1");
    }

    /** What was dropped, or was to be added but couldn't be read, is not there to be dropped. */
    private static void oneBehindTheLast(Due due) {
        Bench b = new Bench(due, "p(1)", "p(2)", "p(3)");
        b.drop(2, "gone");
        b.drop(2, Bench.BAD);
        b.add("p(3", Bench.BAD);
        b.drop(2, Bench.BAD);
        b.drop(1, "gone");
        b.drop(1, Bench.BAD);
        b.count(2, 1);
    }

    private static void allTwelve(Due due) {
        Bench b = new Bench(due, "p(0)", "p(1)", "p(2)", "p(3)", "p(4)", "p(5)", "p(6)", "p(7)", "p(8)", "p(9)", "p(a)",
            "p(b)");
        b.drop(12, Bench.BAD);
        b.drop(11, "gone");
        b.drop(11, Bench.BAD);
        for (int left = 11; left > 0; left--) {
            b.ask("p(X)", "2");
            b.value('X', left == 1 ? "a" : String.valueOf(11 - left));
            b.drop(0, "gone");
            b.count(2, left - 1);
        }
        b.drop(0, Bench.BAD);
        b.ask("p(X)", Bench.NONE);
    }

    /** "Or add or drop did something": a drop that is refused did nothing. */
    private static void whatIsAsked(Due due) {
        Bench b = new Bench(due, "p(1)", "p(2)", "z");
        b.ask("p(X),Y?z,Y~1", "5");
        b.drop(3, Bench.BAD);
        b.drop(-1, Bench.BAD);
        b.counts(1, 1, 1, 2);
        b.sleeping('Y', 1);
        b.value('X', "1");
        b.next("9");
        b.drop(2, "gone");
        b.nothingAsked();
        b.drop(0, "gone");
        b.nothingAsked();
    }

    private static void textAndPlaceStay(Due due) {
        Bench b = new Bench(due, "p(1)", "p(2)");
        b.add("p(", Bench.BAD);
        b.type("p(X");
        b.drop(0, "gone");
        b.drop(1, Bench.BAD);
        b.count(0, 2);
        b.count(1, 3);
        b.ask(")", "2");
        b.value('X', "2");
    }

    private static void roomIsUsedAgain(Due due) {
        Bench b = new Bench(due, "p(1)", "p(f(X,Y)):X=Y");
        for (int i = 0; i < 40; i++) {
            b.drop(0, "gone");
            b.add(i % 2 == 0 ? "p(1)" : "p(f(X,Y)):X=Y", "2");
            b.ask("p(f(Z,1))", i % 2 == 0 ? "6" : "7");
            b.value('Z', "1");
            b.count(4, i % 2 == 0 ? 1 : 0);
        }
    }
}
