/** Promise 5: ask. How a question is read and its answers are sought has tests of its own. */
public final class AskTest {
    public static void main(String[] args) {
        Due due = new Due();
        answersTheSteps(due);
        theTextIsEmptyThen(due);
        badText(due);
        noAnswer(due);
        tooManySteps(due);
        noDigits(due);
        inPlaceOfWhatIsAsked(due);
        alsoIfItIsBad(due);
        clausesAndPlaceStay(due);
        theQuestionsVariables(due);
        manyLongQuestions(due);
        due.end();
    }

    /** "Answers the STEPS so far". */
    private static void answersTheSteps(Due due) {
        Bench b = new Bench(due, "a", "p(1)", "p(2)");
        b.ask("a", "1");
        b.ask("a", "1");
        b.ask("p(2)", "3");
        b.ask("p(X),p(Y),X~Y", "9");
        b.next("14");
        b.ask("a", "1");
    }

    /** "The text, empty then also if it's bad", and whatever else is thrown. */
    private static void theTextIsEmptyThen(Due due) {
        Bench b = new Bench(due, "l:l");
        String[][] asked = {{"X=1", "2"}, {"X=", Bench.BAD}, {"z", Bench.NONE}, {"l", Bench.STATE}, {"1<a", Bench.UNFIT}};
        for (String[] one : asked) {
            b.type(one[0]);
            b.count(1, one[0].length());
            b.ask("", one[1]);
            b.count(1, 0);
            b.type("X=");
            b.ask("2", "2");
            b.value('X', "2");
        }
    }

    /** The empty text can't be read; nor can one whose end, or whose first character is wrong. */
    private static void badText(Due due) {
        String[] texts = {"", "X", "a:b", "(", "a(", "a(1,2,3,4)", "X?1", "a(b(c(d(e(f(g))))))"};
        int[] places = {0, 1, 1, 0, 2, 7, 2, 11};
        for (int i = 0; i < texts.length; i++) {
            Bench b = new Bench(due, "p(1)", "p(2)");
            b.ask("p(X)", "2");
            b.ask(texts[i], Bench.BAD);
            b.count(0, places[i]);
            b.count(1, 0);
            b.count(2, 2);
            b.nothingAsked();
        }
    }

    private static void noAnswer(Due due) {
        Bench b = new Bench(due, "p(1)", "p(2)");
        for (String text : new String[] {"z", "p(3)", "p(X),X~1,X~2", "1=2", "2<1", "!,z", "X?z,X=1"}) {
            b.ask("p(X)", "2");
            b.ask(text, Bench.NONE);
            b.count(0, -1);
            b.nothingAsked();
        }
    }

    private static void tooManySteps(Due due) {
        Bench b = new Bench(due, "l:l", "p(1)", "p(2)");
        b.ask("p(X)", "2");
        b.ask("l", Bench.STATE);
        b.count(0, -1);
        b.nothingAsked();
    }

    private static void noDigits(Due due) {
        Bench b = new Bench(due, "p(1)", "p(2)");
        b.ask("p(X)", "2");
        b.ask("p(X),X<Y", Bench.UNFIT);
        b.count(0, -1);
        b.nothingAsked();
    }

    /** "In place of what is asked". */
    private static void inPlaceOfWhatIsAsked(Due due) {
        Bench b = new Bench(due, "p(1)", "p(2)");
        b.ask("p(X),Y~1,W?z", "5");
        b.counts(1, 1, 1, 3);
        b.ask("p(Z)", "2");
        b.counts(1, 1, 0, 1);
        b.value('X', Bench.NONE);
        b.sleeping('W', -1);
        b.next("3");
        b.value('Z', "2");
        b.ask("p(W)", "2");
        b.sleeping('W', 0);
        b.counts(1, 1, 0, 1);
    }

    /** "In place of what is asked, also if it's bad": that one can't be gone on with. */
    private static void alsoIfItIsBad(Due due) {
        Bench b = new Bench(due, "p(1)", "p(2)", "p(3)");
        b.ask("p(X)", "2");
        b.ask("p(X", Bench.BAD);
        b.nothingAsked();
        b.ask("p(X)", "2");
        b.next("3");
        b.value('X', "2");
    }

    private static void clausesAndPlaceStay(Due due) {
        Bench b = new Bench(due, "p(1)", "p(2)");
        b.ask("p(", Bench.BAD);
        b.ask("p(X)", "2");
        b.ask("z", Bench.NONE);
        b.ask("X<1", Bench.UNFIT);
        b.count(0, 2);
        b.count(2, 2);
        b.ask("p(X),X~1", "7");
        b.value('X', "2");
    }

    /** A question may have none, or all that its 48 characters can hold. */
    private static void theQuestionsVariables(Due due) {
        Bench b = new Bench(due);
        b.ask("a=a", "2");
        b.count(6, 0);
        b.ask("A=Z", "2");
        b.count(6, 2);
        b.ask("f(A,B,C)=f(D,E,F),f(G,H,I)=f(J,K,L),M=N,f(O)=P", "14");
        b.count(6, 16);
        b.value('P', "f(_)");
        b.ask("A=B,C=D,E=F,G=H,I=J,K=L,M=N,O=P,Q=R,S=T,U=V,W=X", "24");
        b.count(6, 24);
        b.value('X', "_");
        b.value('Y', Bench.NONE);
    }

    /** Nothing that earlier questions bound, put to sleep or settled takes room from a later one. */
    private static void manyLongQuestions(Due due) {
        Bench b = new Bench(due, "a(X):X?z", "b(X):a(X),a(X),X?z,X?z,X?z", "c(X):b(X),b(X),b(X),b(X)",
            "d(X):c(X),c(X),c(X),c(X),c(X),c(X)", "e(X):X~1,X~2,X~3,X~4", "f:e(5),e(5),e(5),e(5),e(5),e(5),e(5)",
            "g:f,f,f,f", "h(X):e(X)", "h(X)");
        for (int i = 0; i < 20; i++) {
            b.ask("d(X)", "278");
            b.sleeping('X', 120);
            b.count(6, 80);
            b.ask("g", "285");
            b.count(5, 0);
            b.ask("h(X),X=5", "18");
            b.count(5, 0);
            b.next("21");
            b.count(5, 0);
            b.value('X', "5");
        }
    }
}
