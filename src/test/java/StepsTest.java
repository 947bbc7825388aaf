/** The 500 STEPS: the 500th may be taken, and one more is IllegalStateException, whatever it would be. */
public final class StepsTest {
    // h takes 255 STEPS, g 127, f 63, e 31, d 15, c 7, b 3 and a 1.
    private static final String[] COSTS = {"a", "b:a,a", "c:b,b", "d:c,c", "e:d,d", "f:e,e", "g:f,f", "h:g,g", "w", "w",
        "k(1)", "k(2)"};
    private static final String STEPS_498 = "h,g,f,e,d,c,";
    private static final String STEPS_499 = STEPS_498 + "a,";
    private static final String STEPS_500 = STEPS_499 + "a,";

    public static void main(String[] args) {
        Due due = new Due();
        askTakesThemAll(due);
        theLastIsAGoal(due);
        theLastIsAPair(due);
        theLastIsATest(due);
        theLastFails(due);
        theLastThrows(due);
        nextTakesThemAll(due);
        nextTakesOneMore(due);
        goingBackIsNoStep(due);
        sinceAskBegan(due);
        manyNexts(due);
        manyVariables(due);
        endless(due);
        due.end();
    }

    private static void fits(Due due, String question) {
        Bench b = new Bench(due, COSTS);
        b.ask(question, "500");
        b.count(3, 1);
    }

    private static void oneTooMany(Due due, String question) {
        Bench b = new Bench(due, COSTS);
        b.ask(question, Bench.STATE);
        b.count(1, 0);
        b.count(2, 12);
        b.nothingAsked();
    }

    private static void askTakesThemAll(Due due) {
        Bench b = new Bench(due, COSTS);
        b.ask(STEPS_498 + "!", "499");
        b.ask(STEPS_498 + "!,!", "500");
        b.ask(STEPS_498 + "!,!,!", Bench.STATE);
        b.nothingAsked();
    }

    private static void theLastIsAGoal(Due due) {
        for (String goal : new String[] {"a", "!", "1<2", "X?z", "w"}) {
            fits(due, STEPS_499 + goal);
            oneTooMany(due, STEPS_500 + goal);
        }
        fits(due, STEPS_498 + "1?a");
        oneTooMany(due, STEPS_499 + "1?a");
    }

    private static void theLastIsAPair(Due due) {
        for (String goal : new String[] {"1=1", "X=X", "X=Y", "X=1", "k(X)", "k(1)"}) {
            fits(due, STEPS_498 + goal);
            oneTooMany(due, STEPS_499 + goal);
            oneTooMany(due, STEPS_500 + goal);
        }
    }

    private static void theLastIsATest(Due due) {
        for (String goal : new String[] {"1~2", "X~Y", "X~1"}) {
            fits(due, STEPS_498 + goal);
            oneTooMany(due, STEPS_499 + goal);
            oneTooMany(due, STEPS_500 + goal);
        }
        // A test of an apart that waits: two STEPS at the start, three at the end.
        fits(due, "X~1,h,g,f,e,d,b,a,X=2");
        oneTooMany(due, "X~1,h,g,f,e,d,b,a,a,X=2");
        // Two that wait, of which just one could be tested.
        fits(due, "X~1,Y~1,h,g,f,e,d,a,X=2");
        oneTooMany(due, "X~1,Y~1,h,g,f,e,d,a,a,X=2");
    }

    /** Failing costs nothing more: there's no answer then, which needs no STEP. */
    private static void theLastFails(Due due) {
        Bench b = new Bench(due, COSTS);
        b.ask(STEPS_499 + "z", Bench.NONE);
        b.ask(STEPS_500 + "z", Bench.STATE);
        b.ask(STEPS_499 + "2<1", Bench.NONE);
        b.ask(STEPS_500 + "2<1", Bench.STATE);
        b.ask(STEPS_498 + "1=2", Bench.NONE);
        b.ask(STEPS_499 + "1=2", Bench.STATE);
        b.ask(STEPS_498 + "1~1", Bench.NONE);
        b.ask(STEPS_499 + "1~1", Bench.STATE);
        b.ask("X~1,h,g,f,e,d,b,a,X=1", Bench.NONE);
        b.ask("X~1,h,g,f,e,d,b,a,a,X=1", Bench.STATE);
    }

    private static void theLastThrows(Due due) {
        Bench b = new Bench(due, COSTS);
        b.ask(STEPS_499 + "1<a", Bench.UNFIT);
        b.nothingAsked();
        b.ask(STEPS_500 + "1<a", Bench.STATE);
        b.nothingAsked();
    }

    /** "With all that next does". */
    private static void nextTakesThemAll(Due due) {
        Bench b = new Bench(due, COSTS);
        b.ask("h,g,f,e,d,b,b,k(X)", "499");
        b.next("500");
        b.value('X', "2");
        b.counts(2, 0, 0, 1);
        b.next(Bench.NONE);
        b.nothingAsked();
    }

    private static void nextTakesOneMore(Due due) {
        Bench b = new Bench(due, COSTS);
        b.ask(STEPS_498 + "k(X)", "500");
        b.value('X', "1");
        b.counts(1, 1, 0, 1);
        b.next(Bench.STATE);
        b.nothingAsked();
        b.ask("w," + STEPS_498 + "!", "500");
        b.next(Bench.NONE);
        b.ask("w," + STEPS_498 + "a", "500");
        b.next(Bench.STATE);
        b.nothingAsked();
    }

    private static void goingBackIsNoStep(Due due) {
        Bench b = new Bench(due, COSTS);
        b.ask(STEPS_499 + "w", "500");
        b.next("500");
        b.counts(2, 0, 0, 0);
        b.next(Bench.NONE);
        b.ask("w,w", "2");
        b.next("2");
        b.next("3");
        b.next("3");
        b.next(Bench.NONE);
    }

    /** "Since ask began": each question has its own. */
    private static void sinceAskBegan(Due due) {
        Bench b = new Bench(due, COSTS);
        for (int i = 0; i < 20; i++) {
            b.ask(STEPS_499 + "a", "500");
            b.ask(STEPS_500 + "a", Bench.STATE);
            b.ask("a", "1");
            b.ask(STEPS_499 + "1<a", Bench.UNFIT);
            b.ask("!,!", "2");
        }
    }

    /** Each answer is seen twice, the second time without a STEP. */
    private static void manyNexts(Due due) {
        Bench b = new Bench(due, "r", "r:p,r", "p", "p", "z", "z");
        b.ask("r,z", "2");
        b.next("2");
        for (int steps = 5; steps <= 500; steps += 3) {
            b.next(String.valueOf(steps));
            b.next(String.valueOf(steps));
        }
        b.next(Bench.STATE);
        b.nothingAsked();
        Bench c = new Bench(due, "r", "r:p,r", "p", "p");
        c.ask("r", "1");
        for (int steps = 3; steps <= 499; steps += 2) {
            c.next(String.valueOf(steps));
        }
        c.counts(250, 250, 0, 0);
        c.next(Bench.STATE);
        c.nothingAsked();
    }

    private static void manyVariables(Due due) {
        Bench b = new Bench(due, "n(z)", "n(s(X)):n(X)");
        b.ask("Y?q,n(X)", "3");
        b.value('X', "z");
        for (int k = 1; k <= 165; k++) {
            b.next(String.valueOf(3 + 3 * k));
        }
        b.counts(166, 1, 0, 167);
        b.sleeping('Y', 1);
        b.letter(23, -1, "80");
        b.next(Bench.STATE);
        // Each use of m takes a STEP and makes 22 variables, until there is no STEP left.
        Bench m = new Bench(due, "m:m,A=B,C=D,E=F,G=H,I=J,K=L,M=N,O=P,Q=R,S=T,U=V", "n:!,A=B,C=D,E=F,G=H,I=J,K=L,M=N,O=P");
        m.ask("m", Bench.STATE);
        m.nothingAsked();
        m.ask("n,n,n,n,n,n,n,n,n,n", "180");
        m.count(6, 160);
    }

    private static void endless(Due due) {
        Bench b = new Bench(due, "l:l", "k:k", "k:k", "s(X):X?s(Y),X=1", "d(X):X~Y,d(Y)");
        String[] questions = {"l", "k", "s(X)", "d(X)", "X=f(X),Y=f(Y),X=Y", "X=f(X),Y=f(Y),X~Y", "X=f(X,X),f(X,X)=X"};
        for (String question : questions) {
            b.ask(question, Bench.STATE);
            b.nothingAsked();
            b.ask("!", "1");
        }
    }
}
