/** Promise 6: next. */
public final class NextTest {
    public static void main(String[] args) {
        Due due = new Due();
        oneAfterAnother(due);
        nothingIsAsked(due);
        fiveHundredSteps(due);
        oneMore(due);
        manyVariables(due);
        afterAnEndlessOne(due);
        nextThatThrows(due);
        due.end();
    }

    private static void oneAfterAnother(Due due) {
        Bench b = new Bench(due, "p(1)", "p(2)", "p(3)");
        b.ask("p(X),p(Y),X<Y", "7");
        b.value('Y', "2");
        b.next("9");
        b.value('X', "1");
        b.value('Y', "3");
        b.counts(2, 1, 0, 2);
        b.next("17");
        b.value('X', "2");
        b.value('Y', "3");
        b.next(Bench.NONE);
        b.value('X', Bench.NONE);
        b.counts(0, 0, 0, 0);
        b.next(Bench.NONE);
        b.ask("p(3)", "4");
        b.next(Bench.NONE);
    }

    private static void nothingIsAsked(Due due) {
        Bench b = new Bench(due, "p(1)", "p(2)");
        b.next(Bench.NONE);
        b.ask("p(X)", "2");
        b.type("p(Y)");
        b.next("3");
        b.value('X', "2");
        b.add("", "3");
        b.next(Bench.NONE);
        b.ask("p(X)", "2");
        b.drop(0, "gone");
        b.next(Bench.NONE);
    }

    /** Each answer is seen twice, the second time without a STEP; 500 may be taken, and not one more. */
    private static void fiveHundredSteps(Due due) {
        Bench b = new Bench(due, "r", "r:p,r", "p", "p", "z", "z");
        b.ask("r,z", "2");
        b.next("2");
        for (int steps = 5; steps <= 500; steps += 3) {
            b.next(String.valueOf(steps));
            b.next(String.valueOf(steps));
        }
        b.next(Bench.STATE);
        b.counts(0, 0, 0, 0);
        b.next(Bench.NONE);
    }

    /** As before, but the one too many is the 501st. */
    private static void oneMore(Due due) {
        Bench b = new Bench(due, "r", "r:p,r", "p", "p");
        b.ask("r", "1");
        for (int steps = 3; steps <= 499; steps += 2) {
            b.next(String.valueOf(steps));
        }
        b.counts(250, 250, 0, 0);
        b.next(Bench.STATE);
        b.next(Bench.NONE);
    }

    private static void manyVariables(Due due) {
        Bench b = new Bench(due, "n(z)", "n(s(X)):n(X)");
        b.ask("Y?q,n(X)", "3");
        b.value('X', "z");
        for (int k = 1; k <= 165; k++) {
            b.next(String.valueOf(3 + 3 * k));
        }
        b.counts(166, 1, 0, 167);
        b.sleeping('Y', 1);
        b.letter(23, -1, "80");
        b.next(Bench.STATE);
    }

    private static void afterAnEndlessOne(Due due) {
        Bench b = new Bench(due, "l:l");
        b.ask("l", Bench.STATE);
        b.ask("!", "1");
        b.next(Bench.NONE);
    }

    private static void nextThatThrows(Due due) {
        Bench b = new Bench(due, "p(1)", "p(a)", "p(2)");
        b.ask("p(X),X<3", "3");
        b.next(Bench.UNFIT);
        b.next(Bench.NONE);
        b.value('X', Bench.NONE);
    }
}
