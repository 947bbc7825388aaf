/** Promise 6: next. */
public final class NextTest {
    public static void main(String[] args) {
        Due due = new Due();
        oneAfterAnother(due);
        noFurtherAnswer(due);
        nothingIsAsked(due);
        addAndDropDidSomething(due);
        addAndDropDidNothing(due);
        theTextStays(due);
        tooManySteps(due);
        noDigits(due);
        answersWithoutSteps(due);
        due.end();
    }

    /** "The next ANSWER, after FAILING"; "answers the STEPS since ask began". */
    private static void oneAfterAnother(Due due) {
        Bench b = new Bench(due, "p(1)", "p(2)", "p(3)");
        b.ask("p(X),p(Y),X<Y", "7");
        b.value('X', "1");
        b.value('Y', "2");
        b.next("9");
        b.value('X', "1");
        b.value('Y', "3");
        b.counts(2, 1, 0, 2);
        b.next("17");
        b.value('X', "2");
        b.value('Y', "3");
        b.next(Bench.NONE);
        b.nothingAsked();
    }

    /** "None": then nothing is asked any more, and the next call finds nothing either. */
    private static void noFurtherAnswer(Due due) {
        Bench b = new Bench(due, "p(1)", "p(2)");
        String[][] asked = {{"!", "1"}, {"X=1", "2"}, {"X?z", "1"}, {"X~1", "2"}, {"p(X),!", "3"}, {"p(2)", "3"},
            {"p(X),X~1", "7"}};
        for (String[] one : asked) {
            b.ask(one[0], one[1]);
            b.next(Bench.NONE);
            b.nothingAsked();
            b.next(Bench.NONE);
            b.count(0, -1);
            b.count(2, 2);
        }
    }

    private static void nothingIsAsked(Due due) {
        Bench b = new Bench(due, "p(1)", "p(2)", "l:l");
        b.next(Bench.NONE);
        String[][] asked = {{"", Bench.BAD}, {"p(", Bench.BAD}, {"p(3)", Bench.NONE}, {"l", Bench.STATE},
            {"1<a", Bench.UNFIT}};
        for (String[] one : asked) {
            b.ask("p(X)", "2");
            b.ask(one[0], one[1]);
            b.next(Bench.NONE);
            b.next(Bench.NONE);
        }
    }

    /** "Or add or drop did something". */
    private static void addAndDropDidSomething(Due due) {
        Bench b = new Bench(due, "p(1)", "p(2)", "p(3)");
        b.ask("p(X)", "2");
        b.add("z", "4");
        b.nothingAsked();
        b.ask("p(X)", "2");
        b.drop(3, "gone");
        b.nothingAsked();
    }

    private static void addAndDropDidNothing(Due due) {
        Bench b = new Bench(due, "p(1)", "p(2)", "p(3)", "p(4)", "p(5)", "z", "z", "z", "z", "z", "z");
        b.ask("p(X)", "2");
        b.add("p(", Bench.BAD);
        b.next("3");
        b.drop(11, Bench.BAD);
        b.next("4");
        b.drop(-1, Bench.BAD);
        b.next("5");
        b.value('X', "4");
        b.add("z", "12");
        b.ask("p(X)", "2");
        b.add("p(6)", Bench.STATE);
        b.next("3");
        b.add("p(", Bench.STATE);
        b.next("4");
        b.drop(12, Bench.BAD);
        b.next("5");
        b.next("6");
        b.value('X', "5");
        b.counts(5, 0, 0, 1);
        b.next(Bench.NONE);
    }

    /** next reads nothing: what was typed stays, whatever it answers. */
    private static void theTextStays(Due due) {
        Bench b = new Bench(due, "p(1)", "p(2)");
        b.type("p(Y)");
        b.next(Bench.NONE);
        b.count(1, 4);
        b.ask("", "2");
        b.type("p(Z)");
        b.next("3");
        b.value('Y', "2");
        b.count(1, 4);
        b.next(Bench.NONE);
        b.count(1, 4);
        b.ask("", "2");
        b.value('Z', "1");
    }

    private static void tooManySteps(Due due) {
        Bench b = new Bench(due, "p(1)", "p(2):l", "p(3)", "l:l");
        b.ask("p(X)", "2");
        b.type("p(");
        b.next(Bench.STATE);
        b.count(0, -1);
        b.count(1, 2);
        b.count(2, 4);
        b.nothingAsked();
    }

    private static void noDigits(Due due) {
        Bench b = new Bench(due, "p(1)", "p(a)", "p(2)");
        b.ask("p(X),X<3", "3");
        b.type("p(");
        b.next(Bench.UNFIT);
        b.count(0, -1);
        b.count(1, 2);
        b.count(2, 3);
        b.nothingAsked();
    }

    /** FAILING is no STEP, so the same number may be answered again. */
    private static void answersWithoutSteps(Due due) {
        Bench b = new Bench(due, "w", "w", "w");
        b.ask("w", "1");
        b.next("1");
        b.next("1");
        b.counts(3, 0, 0, 0);
        b.next(Bench.NONE);
    }
}
