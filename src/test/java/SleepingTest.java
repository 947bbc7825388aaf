/** Promise 8: sleeping. */
public final class SleepingTest {
    public static void main(String[] args) {
        Due due = new Due();
        howMany(due);
        onTheValue(due);
        noVariable(due);
        moved(due);
        many(due);
        outOfRange(due);
        notInTheQuestion(due);
        nothingIsAsked(due);
        due.end();
    }

    private static void howMany(Due due) {
        Bench b = new Bench(due, "p(1)", "p(2)", "p(X):X?q,X?q");
        b.ask("X?p(X),X?p(1),X?q,Y=Z,W=1", "7");
        b.sleeping('X', 3);
        b.sleeping('Y', 0);
        b.sleeping('Z', 0);
        b.sleeping('W', 0);
        b.sleeping('A', -1);
        b.ask("X?p(Y),p(X)", "5");
        b.sleeping('X', 0);
        b.sleeping('Y', 0);
        b.next("6");
        b.next("9");
        b.value('Y', "_");
        b.sleeping('Y', 2);
    }

    /** "On the VALUE of the VARIABLE v": that of another one, perhaps of a clause. */
    private static void onTheValue(Due due) {
        Bench b = new Bench(due, "d(f(C)):C?z");
        b.ask("X=Y,Y=W,X?z,Y?z", "6");
        b.sleeping('W', 2);
        b.sleeping('X', 2);
        b.sleeping('Y', 2);
        b.ask("d(X),X=f(Y),Y?z", "7");
        b.sleeping('X', 0);
        b.sleeping('Y', 2);
    }

    /** "0 if it's no VARIABLE", though goals sleep on one in it. */
    private static void noVariable(Due due) {
        Bench b = new Bench(due, "s");
        b.ask("X=1,Y=a,Z=f(W),W?z,W?z", "8");
        b.sleeping('X', 0);
        b.sleeping('Y', 0);
        b.sleeping('Z', 0);
        b.sleeping('W', 2);
        // Goals that woke sleep no more.
        b.ask("X?s,X?s,X=1", "6");
        b.sleeping('X', 0);
    }

    private static void moved(Due due) {
        Bench b = new Bench(due, "b(X,X)", "b(X,Y)", "b(X,Y):Y?q");
        b.ask("X?q,Y?q,Y?q,b(X,Y)", "6");
        b.sleeping('X', 3);
        b.sleeping('Y', 3);
        b.next("8");
        b.sleeping('X', 1);
        b.sleeping('Y', 2);
        b.next("11");
        b.sleeping('X', 1);
        b.sleeping('Y', 3);
        b.ask("Y?q,b(X,Y),X?q", "5");
        b.sleeping('X', 2);
        b.sleeping('Y', 2);
        b.next("8");
        b.sleeping('X', 1);
        b.sleeping('Y', 1);
        b.next("12");
        b.sleeping('X', 1);
        b.sleeping('Y', 2);
    }

    /** As many as the STEPS allow. */
    private static void many(Due due) {
        Bench b = new Bench(due, "a(X):X?z", "b(X):a(X),a(X),X?z,X?z,X?z", "c(X):b(X),b(X),b(X),b(X)",
            "d(X):c(X),c(X),c(X),c(X),c(X),c(X)");
        b.ask("d(X),X?z,X?z,X?z", "281");
        b.sleeping('X', 123);
        b.ask("d(X),X=Y,Y?z", "281");
        b.sleeping('X', 121);
        b.sleeping('Y', 121);
    }

    /** v is 0 .. 25: another number is bad, also if nothing is asked. */
    private static void outOfRange(Due due) {
        Bench b = new Bench(due);
        for (int round = 0; round < 2; round++) {
            for (int v : new int[] {-1, 26, -2, 27, Integer.MIN_VALUE, Integer.MAX_VALUE, 'A', 'Z', 256, 1 << 16}) {
                b.sleeping(v, Bench.BAD);
            }
            b.ask("A?b,Z?b", "2");
            b.sleeping('A', 1);
            b.sleeping('Z', 1);
        }
    }

    /** "-1 if it's not in the QUESTION": though it may be in a clause, or in an earlier question. */
    private static void notInTheQuestion(Due due) {
        Bench b = new Bench(due, "p(A,Z):A?z,Z?z");
        b.ask("B?z,C?z", "2");
        b.ask("p(X,X)", "5");
        for (char v = 'A'; v <= 'Z'; v++) {
            b.sleeping(v, v == 'X' ? 2 : -1);
        }
        b.ask("1=1", "2");
        b.sleeping('X', -1);
    }

    /** "Or nothing is asked": after each call that ends what is asked. */
    private static void nothingIsAsked(Due due) {
        Bench b = new Bench(due, "l:l");
        for (char v = 'A'; v <= 'Z'; v++) {
            b.sleeping(v, -1);
        }
        String[][] asked = {{"X?", Bench.BAD}, {"X?z,z", Bench.NONE}, {"X?z,l", Bench.STATE}, {"X?z,X<a", Bench.UNFIT}};
        for (String[] one : asked) {
            b.ask("X?z", "1");
            b.sleeping('X', 1);
            b.ask(one[0], one[1]);
            b.sleeping('X', -1);
        }
        b.ask("X?z", "1");
        b.next(Bench.NONE);
        b.sleeping('X', -1);
        b.ask("X?z", "1");
        b.add("z", "2");
        b.sleeping('X', -1);
        b.ask("X?z", "1");
        b.drop(0, "gone");
        b.sleeping('X', -1);
    }
}
