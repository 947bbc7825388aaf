/** Promise 7: letter. */
public final class LetterTest {
    public static void main(String[] args) {
        Due due = new Due();
        values(due);
        eachCharacter(due);
        ofEachAnswer(due);
        seventyNineToEightyOne(due);
        endlessValues(due);
        brackets(due);
        outOfRange(due);
        noSuchCharacter(due);
        notInTheQuestion(due);
        nothingIsAsked(due);
        due.end();
    }

    /** "Its VALUE written as a text, _ for VARIABLES that aren't BOUND". */
    private static void values(Due due) {
        Bench b = new Bench(due, "n(f(Q,R,Q))");
        b.ask("A=f(Z,g(B,1),c),B=Z,M=h(A),Y=2", "8");
        b.value('A', "f(_,g(_,1),c)");
        b.value('B', "_");
        b.value('M', "h(f(_,g(_,1),c))");
        b.value('Y', "2");
        b.value('Z', "_");
        b.value('C', Bench.NONE);
        b.ask("n(X),X=f(Y,1,Z)", "7");
        b.value('X', "f(_,1,_)");
        b.value('Z', "_");
        b.ask("X=a(b(c(d(e(f))))),Y=g(X,X)", "4");
        b.value('Y', "g(a(b(c(d(e(f))))),a(b(c(d(e(f))))))");
    }

    /** "Its character i, or its length (i = -1)". */
    private static void eachCharacter(Due due) {
        Bench b = new Bench(due);
        b.ask("A=f(Z,9),Z=z,B=C", "6");
        b.letter(0, -1, "6");
        b.letter(0, 0, 'f');
        b.letter(0, 1, '(');
        b.letter(0, 2, 'z');
        b.letter(0, 3, ',');
        b.letter(0, 4, '9');
        b.letter(0, 5, ')');
        b.letter(0, 6, Bench.NONE);
        b.letter(25, -1, "1");
        b.letter(25, 0, 'z');
        b.letter(1, -1, "1");
        b.letter(1, 0, '_');
        b.letter(2, 0, '_');
        b.letter(2, 1, Bench.NONE);
    }

    private static void ofEachAnswer(Due due) {
        Bench b = new Bench(due, "p(1)", "p(f(X))", "p(Y)");
        b.ask("p(X)", "2");
        b.value('X', "1");
        b.next("3");
        b.value('X', "f(_)");
        b.next("4");
        b.value('X', "_");
        b.next(Bench.NONE);
        b.value('X', Bench.NONE);
    }

    /** "A text ends at 80 characters": those of 79 and 80 are whole, that of 81 lacks its last. */
    private static void seventyNineToEightyOne(Due due) {
        Bench b = new Bench(due, "q(c(1,1,1),a(1))");
        String p = "f(c(1,1,1),c(1,1,1),a(1))";
        b.ask("q(Q,A),P=f(Q,Q,A),X=f(P,P,f(Q,g(A),A))", "7");
        b.value('X', "f(" + p + "," + p + ",f(c(1,1,1),g(a(1)),a(1)))");
        b.letter(23, -1, "79");
        b.ask("q(Q,A),P=f(Q,Q,A),X=f(P,P,P)", "7");
        b.value('X', "f(" + p + "," + p + "," + p + ")");
        b.letter(23, -1, "80");
        b.letter(23, 79, ')');
        b.letter(23, 80, Bench.NONE);
        b.ask("q(Q,A),P=f(Q,Q,A),X=f(P,P,f(Q,d(1,A),A))", "7");
        b.letter(23, -1, "80");
        b.letter(23, 78, ')');
        b.letter(23, 79, ')');
        b.letter(23, 80, Bench.NONE);
        b.letter(23, 81, Bench.NONE);
        Bench c = new Bench(due, "e(X,Y):X=f(Y,Y)");
        c.ask("e(A,B),e(B,C),e(C,D),e(D,1)", "20");
        c.letter(0, -1, "76");
        c.letter(0, 75, ')');
        c.letter(0, 76, Bench.NONE);
        c.letter(0, 79, Bench.NONE);
        c.ask("e(A,B),e(B,C),e(C,D),e(D,E),e(E,1)", "25");
        c.letter(0, -1, "80");
        c.letter(0, 80, Bench.NONE);
    }

    private static void endlessValues(Due due) {
        Bench b = new Bench(due);
        b.ask("X=f(X),Y=g(1,Y),Z=h(Z,Z,Z),W=k(a(1),2,W)", "8");
        b.value('X', "f(".repeat(40));
        b.value('Y', "g(1,".repeat(20));
        b.value('Z', "h(".repeat(40));
        b.value('W', "k(a(1),2,".repeat(8) + "k(a(1),2");
    }

    /** Where the 80 characters end in the middle of arguments, nothing is written behind them. */
    private static void brackets(Due due) {
        Bench b = new Bench(due);
        b.ask("X=f(Y,X),Y=g(Z,2,3)", "4");
        b.value('X', "f(g(_,2,3),".repeat(7) + "f(g");
        b.ask("X=f(X,1),Y=h(X)", "4");
        b.value('Y', "h(" + "f(".repeat(39));
    }

    /** v is 0 .. 25: another number is bad, also if nothing is asked, whatever i is. */
    private static void outOfRange(Due due) {
        Bench b = new Bench(due);
        for (int round = 0; round < 2; round++) {
            for (int v : new int[] {-1, 26, -2, 27, Integer.MIN_VALUE, Integer.MAX_VALUE, 'A', 'Z', 256, 1 << 16}) {
                b.letter(v, 0, Bench.BAD);
                b.letter(v, -1, Bench.BAD);
                b.letter(v, 80, Bench.BAD);
                b.letter(v, -2, Bench.BAD);
            }
            b.ask("A=1,Z=2", "4");
            b.letter(0, 0, '1');
            b.letter(25, 0, '2');
        }
    }

    /** "Or there's no such character". */
    private static void noSuchCharacter(Due due) {
        Bench b = new Bench(due);
        b.ask("X=1,Y=f(X)", "4");
        for (int i : new int[] {4, 5, 79, 80, 81, Integer.MAX_VALUE, -2, -3, Integer.MIN_VALUE, 1 << 8, 1 << 16}) {
            b.letter(23, i, Bench.NONE);
            b.letter(24, i, Bench.NONE);
        }
        b.letter(23, 1, Bench.NONE);
        b.letter(23, 0, '1');
        b.letter(24, 3, ')');
    }

    /** "It isn't in the QUESTION": though it may be in a clause, or in an earlier question. */
    private static void notInTheQuestion(Due due) {
        Bench b = new Bench(due, "p(A,Z):A=Z");
        b.ask("B=1,C=2", "4");
        b.ask("p(X,1)", "5");
        for (int v = 0; v < 26; v++) {
            b.letter(v, 0, v == 23 ? "49" : Bench.NONE);
            b.letter(v, -1, v == 23 ? "1" : Bench.NONE);
        }
        b.ask("1=1", "2");
        b.letter(23, -1, Bench.NONE);
    }

    /** "Nothing is asked": after each call that ends what is asked. */
    private static void nothingIsAsked(Due due) {
        Bench b = new Bench(due, "l:l");
        b.letter(23, 0, Bench.NONE);
        b.letter(23, -1, Bench.NONE);
        String[][] asked = {{"X=", Bench.BAD}, {"X=1,z", Bench.NONE}, {"X=1,l", Bench.STATE}, {"X=1,X<a", Bench.UNFIT}};
        for (String[] one : asked) {
            b.ask("X=1", "2");
            b.value('X', "1");
            b.ask(one[0], one[1]);
            b.letter(23, 0, Bench.NONE);
            b.letter(23, -1, Bench.NONE);
        }
        b.ask("X=1", "2");
        b.next(Bench.NONE);
        b.letter(23, -1, Bench.NONE);
        b.ask("X=1", "2");
        b.add("z", "2");
        b.letter(23, -1, Bench.NONE);
        b.ask("X=1", "2");
        b.drop(0, "gone");
        b.letter(23, -1, Bench.NONE);
    }
}
