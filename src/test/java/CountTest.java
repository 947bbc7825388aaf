/** Promise 9: count. */
public final class CountTest {
    public static void main(String[] args) {
        Due due = new Due();
        thePlace(due);
        placeOfTheLatest(due);
        theLength(due);
        clauses(due);
        answers(due);
        choices(due);
        apartsWaiting(due);
        variables(due);
        nothingIsAsked(due);
        otherNumbers(due);
        countingChangesNothing(due);
        due.end();
    }

    /** "-1 if there was none": right texts, refused bytes and refused numbers are none. */
    private static void thePlace(Due due) {
        Bench b = new Bench(due);
        b.count(0, -1);
        b.add("a", "1");
        b.ask("a", "1");
        b.ask("z", Bench.NONE);
        b.ask("1<a", Bench.UNFIT);
        b.type(Bench.eight("a b"), Bench.BAD);
        b.drop(1, Bench.BAD);
        b.letter(26, 0, Bench.BAD);
        b.sleeping(26, Bench.BAD);
        b.count(0, -1);
        b.ask("", Bench.BAD);
        b.count(0, 0);
    }

    /** "Of the latest text that couldn't be read", clause or question; right ones in between change nothing. */
    private static void placeOfTheLatest(Due due) {
        Bench b = new Bench(due);
        b.add("a(1", Bench.BAD);
        b.count(0, 3);
        b.ask("a,b,X", Bench.BAD);
        b.count(0, 5);
        b.add("a", "1");
        b.ask("a", "1");
        b.ask("b", Bench.NONE);
        b.drop(0, "gone");
        b.type("((");
        b.count(0, 5);
        b.add("", Bench.BAD);
        b.count(0, 0);
        b.ask("!,".repeat(24), Bench.BAD);
        b.count(0, 48);
        b.add("aa", Bench.BAD);
        b.count(0, 1);
    }

    private static void theLength(Due due) {
        Bench b = new Bench(due);
        b.count(1, 0);
        b.type("abc");
        b.count(1, 3);
        b.type("abcdefgh");
        b.count(1, 11);
        b.type("a".repeat(37));
        b.count(1, 48);
        b.type('a', Bench.STATE);
        b.count(1, 48);
        b.add("", Bench.BAD);
        b.count(1, 0);
    }

    private static void clauses(Due due) {
        Bench b = new Bench(due);
        for (int many = 1; many <= 12; many++) {
            b.add("a", String.valueOf(many));
            b.count(2, many);
        }
        b.add("a", Bench.STATE);
        b.count(2, 12);
        for (int many = 11; many >= 0; many--) {
            b.drop(0, "gone");
            b.count(2, many);
        }
        b.drop(0, Bench.BAD);
        b.count(2, 0);
    }

    /** "ANSWERS so far to what is asked": a new question begins at one again. */
    private static void answers(Due due) {
        Bench b = new Bench(due, "p(1)", "p(2)", "p(3)");
        b.ask("p(X)", "2");
        b.count(3, 1);
        b.next("3");
        b.count(3, 2);
        b.next("4");
        b.count(3, 3);
        b.next(Bench.NONE);
        b.count(3, 0);
        b.ask("p(X),1<X", "5");
        b.count(3, 1);
        b.ask("p(X)", "2");
        b.count(3, 1);
    }

    private static void choices(Due due) {
        Bench b = new Bench(due, "p(1)", "p(2)", "q", "k:!", "k");
        b.ask("q", "1");
        b.count(4, 0);
        b.ask("p(X)", "2");
        b.count(4, 1);
        b.ask("p(A),p(B),p(C),p(D),p(E)", "10");
        b.count(4, 5);
        b.next("11");
        b.count(4, 4);
        b.ask("p(X),k", "4");
        b.count(4, 1);
        b.ask("p(X),p(Y),!", "5");
        b.count(4, 0);
    }

    private static void apartsWaiting(Due due) {
        Bench b = new Bench(due, "p(1)", "p(2)", "p(X):X~Y,Y~Z");
        b.ask("1~2", "2");
        b.count(5, 0);
        b.ask("W~7,V~8", "4");
        b.count(5, 2);
        b.ask("p(X),W~7,V~8", "6");
        b.counts(1, 1, 2, 3);
        b.next("11");
        b.counts(2, 1, 2, 3);
        b.next("20");
        b.counts(3, 0, 4, 6);
        b.ask("X~1,X~2,X~3,X=2", Bench.NONE);
        b.count(5, 0);
        b.ask("X~1,X~2,Y~3,X=4", "11");
        b.count(5, 1);
    }

    /** "VARIABLES that came to be for it so far, also those gone on the way back". */
    private static void variables(Due due) {
        Bench b = new Bench(due, "q(A,B,C):D=E,F=1,z", "q(A,B,C):D=E", "q(A,B,3)", "r", "s(A,1)", "s(B,2)");
        b.ask("1=1", "2");
        b.count(6, 0);
        b.ask("r", "1");
        b.count(6, 0);
        b.ask("X=Y", "2");
        b.count(6, 2);
        b.ask("q(1,2,X)", "14");
        b.count(6, 12);
        b.next("17");
        b.count(6, 14);
        // Those of a clause whose head didn't fit came to be, too.
        b.ask("s(X,2)", "5");
        b.count(6, 3);
    }

    /** "All 0 if nothing is asked": after each call that ends what is asked. */
    private static void nothingIsAsked(Due due) {
        Bench b = new Bench(due, "l:l", "p(1)", "p(2)");
        b.nothingAsked();
        String[][] asked = {{"X?", Bench.BAD}, {"p(X),z", Bench.NONE}, {"p(X),l", Bench.STATE}, {"p(X),X<a", Bench.UNFIT}};
        for (String[] one : asked) {
            b.ask("p(X),Y~1", "4");
            b.counts(1, 1, 1, 2);
            b.ask(one[0], one[1]);
            b.nothingAsked();
        }
        b.ask("p(X),!,Y~1", "5");
        b.next(Bench.NONE);
        b.counts(0, 0, 0, 0);
        b.ask("p(X),Y~1", "4");
        b.add("z", "4");
        b.counts(0, 0, 0, 0);
        b.ask("p(X),Y~1", "4");
        b.drop(3, "gone");
        b.counts(0, 0, 0, 0);
    }

    /** "Else -1", also if nothing is asked. */
    private static void otherNumbers(Due due) {
        Bench b = new Bench(due);
        for (int round = 0; round < 2; round++) {
            for (int what : new int[] {-1, 7, 8, -2, 100, 256, 1 << 16, Integer.MAX_VALUE, Integer.MIN_VALUE}) {
                b.count(what, -1);
            }
            b.ask("X=1,Y~X", "4");
        }
    }

    private static void countingChangesNothing(Due due) {
        Bench b = new Bench(due, "p(1)", "p(2)");
        b.ask("p(X),Y~1", "4");
        b.type("p(Z)");
        for (int i = 0; i < 10; i++) {
            b.count(0, -1);
            b.count(1, 4);
            b.count(2, 2);
            b.counts(1, 1, 1, 2);
            b.count(i + 7, -1);
        }
        b.next("7");
        b.ask("", "2");
    }
}
