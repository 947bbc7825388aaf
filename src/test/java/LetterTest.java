/** Promise 7: letter. */
public final class LetterTest {
    public static void main(String[] args) {
        Due due = new Due();
        values(due);
        eightyCharacters(due);
        wrongNumbers(due);
        due.end();
    }

    private static void values(Due due) {
        Bench b = new Bench(due);
        b.ask("A=f(Z,g(B,1),c),B=Z,M=h(A),Y=2", "8");
        b.value('A', "f(_,g(_,1),c)");
        b.value('B', "_");
        b.value('M', "h(f(_,g(_,1),c))");
        b.value('Y', "2");
        b.value('Z', "_");
        b.value('C', Bench.NONE);
        b.letter(0, 1, '(');
        b.letter(25, -1, "1");
    }

    private static void eightyCharacters(Due due) {
        Bench b = new Bench(due, "e(X,Y):X=f(Y,Y)", "g(X,Y):X=f(Y,1,2)");
        b.ask("X=f(X)", "2");
        b.letter(23, -1, "80");
        b.letter(23, 79, '(');
        b.letter(23, 80, Bench.NONE);
        b.ask("X=f(1,X)", "2");
        b.letter(23, -1, "80");
        b.letter(23, 78, "49");
        b.letter(23, 79, ',');
        b.ask("e(A,B),e(B,C),e(C,D),e(D,1)", "20");
        b.letter(0, -1, "76");
        b.letter(0, 75, ')');
        b.letter(0, 76, Bench.NONE);
        b.ask("e(A,B),e(B,C),e(C,D),g(D,E)", "20");
        b.letter(0, -1, "80");
        b.letter(0, 79, ')');
    }

    private static void wrongNumbers(Due due) {
        Bench b = new Bench(due);
        b.letter(23, 0, Bench.NONE);
        b.letter(23, -1, Bench.NONE);
        b.ask("X=1", "2");
        b.letter(-1, 0, Bench.BAD);
        b.letter(26, 0, Bench.BAD);
        b.letter(Integer.MIN_VALUE, 0, Bench.BAD);
        b.letter(Integer.MAX_VALUE, -1, Bench.BAD);
        b.letter(24, 0, Bench.NONE);
        b.letter(24, -1, Bench.NONE);
        b.letter(23, 0, "49");
        b.letter(23, 1, Bench.NONE);
        b.letter(23, -2, Bench.NONE);
        b.letter(23, Integer.MAX_VALUE, Bench.NONE);
        b.letter(23, Integer.MIN_VALUE, Bench.NONE);
    }
}
