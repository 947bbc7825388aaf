/** Promise 9: count. */
public final class CountTest {
    public static void main(String[] args) {
        Due due = new Due();
        textsAndClauses(due);
        ofWhatIsAsked(due);
        otherNumbers(due);
        due.end();
    }

    private static void textsAndClauses(Due due) {
        Bench b = new Bench(due);
        b.count(0, -1);
        b.add("a(", Bench.BAD);
        b.count(0, 2);
        b.ask("a,b,X", Bench.BAD);
        b.count(0, 5);
        b.add("a", "1");
        b.ask("a", "1");
        b.ask("b", Bench.NONE);
        b.count(0, 5);
        b.ask("", Bench.BAD);
        b.count(0, 0);
        b.type("abc");
        b.count(1, 3);
        b.type("abcdefgh");
        b.count(1, 11);
        b.add("", Bench.BAD);
        b.count(0, 1);
        b.count(1, 0);
        b.count(2, 1);
        b.add("c", "2");
        b.count(2, 2);
        b.drop(0, "gone");
        b.count(2, 1);
    }

    private static void ofWhatIsAsked(Due due) {
        Bench b = new Bench(due, "p(1)", "p(2)", "p(X):X~Y,Y~Z", "q(A,B,C):D=E,F=1,!", "q(A,B,C)");
        b.ask("p(X),W~7,V~8", "6");
        b.counts(1, 1, 2, 3);
        b.next("11");
        b.counts(2, 1, 2, 3);
        b.next("20");
        b.counts(3, 0, 4, 6);
        b.next(Bench.NONE);
        b.counts(0, 0, 0, 0);
        b.ask("q(1,2,3)", "9");
        b.counts(1, 0, 0, 6);
        b.ask("p(3)", "8");
        b.counts(1, 0, 2, 3);
        b.ask("p(X),p(Y),X~Y", "9");
        b.counts(1, 2, 0, 2);
        b.add("p(", Bench.BAD);
        b.counts(1, 2, 0, 2);
        b.drop(4, "gone");
        b.counts(0, 0, 0, 0);
    }

    private static void otherNumbers(Due due) {
        Bench b = new Bench(due);
        b.ask("X=1", "2");
        b.count(-1, -1);
        b.count(7, -1);
        b.count(Integer.MAX_VALUE, -1);
        b.count(Integer.MIN_VALUE, -1);
    }
}
