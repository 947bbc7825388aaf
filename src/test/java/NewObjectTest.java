/** Promise 1: a new object; which exception comes first; what a call that throws leaves as it was. */
public final class NewObjectTest {
    private static final String FULL = "a".repeat(48);

    public static void main(String[] args) {
        Due due = new Due();
        newObject(due);
        objectsAreApart(due);
        theFirstListedIsThrown(due);
        inAddAsItSays(due);
        refusedTypes(due);
        refusedAdds(due);
        refusedDrops(due);
        refusedAsks(due);
        refusedNexts(due);
        refusedLooks(due);
        allCallsOfAnObject(due);
        due.end();
    }

    /** "No CLAUSES; nothing is asked". */
    private static void newObject(Due due) {
        Bench b = new Bench(due);
        int[] counts = {-1, 0, 0, 0, 0, 0, 0, -1};
        for (int what = 0; what < counts.length; what++) {
            b.count(what, counts[what]);
        }
        for (char v = 'A'; v <= 'Z'; v++) {
            b.sleeping(v, -1);
            b.value(v, Bench.NONE);
        }
        b.nothingAsked();
        b.drop(0, Bench.BAD);
        b.add("", Bench.BAD);
        b.ask("", Bench.BAD);
        b.ask("p", Bench.NONE);
    }

    private static void objectsAreApart(Due due) {
        Bench one = new Bench(due, "p(1)");
        Bench other = new Bench(due);
        one.ask("p(X)", "2");
        one.type("p(2)");
        other.count(1, 0);
        other.ask("p(X)", Bench.NONE);
        other.ask("p(", Bench.BAD);
        one.count(0, -1);
        one.count(2, 1);
        one.value('X', "1");
        other.count(2, 0);
    }

    /** "Of several exceptions the one listed first is thrown". */
    private static void theFirstListedIsThrown(Due due) {
        Bench b = new Bench(due);
        // v is out of range; besides, nothing is asked, and there's no such character.
        b.letter(26, 80, Bench.BAD);
        b.letter(-1, -7, Bench.BAD);
        // A byte is wrong, and there are too many.
        b.type(FULL);
        b.type(Bench.eight("a a"), Bench.BAD);
        b.type(-1L, Bench.BAD);
        b.type(Bench.eight("a"), Bench.STATE);
        b.count(1, 48);
    }

    /** "But in add as it says": 12 are there, so a text that can't be read isn't read. */
    private static void inAddAsItSays(Due due) {
        Bench b = new Bench(due, "a", "a", "a", "a", "a", "a", "a", "a", "a", "a", "a", "a");
        b.add("a(", Bench.STATE);
        b.add("", Bench.STATE);
        b.add(FULL, Bench.STATE);
        b.count(0, -1);
    }

    /** Something of everything that a refused call must leave as it is. */
    private static Bench busy(Due due) {
        Bench b = new Bench(due, "p(1)", "p(2)", "p(f(Y))");
        b.add("p(3", Bench.BAD);
        b.ask("p(X),W~5,Y?p(Y),Y?z,Z=g(X,Y)", "9");
        b.type("p(Q)");
        return b;
    }

    /** That the object looks as if nothing had been refused, and goes on so. */
    private static void asBefore(Due due, Bench b) {
        b.sameAs(busy(due));
        b.next("17");
        b.value('Z', "g(2,_)");
        b.ask("", "2");
        b.value('Q', "1");
    }

    private static void refusedTypes(Due due) {
        Bench b = busy(due);
        b.type(Bench.eight("a b"), Bench.BAD);
        b.type(Bench.eight("\u007f"), Bench.BAD);
        b.type(Long.MIN_VALUE, Bench.BAD);
        asBefore(due, b);
        Bench full = busy(due);
        full.type(",!".repeat(22));
        full.type(Bench.eight("!"), Bench.STATE);
        full.count(1, 48);
        full.next("17");
        full.ask("", "24");
    }

    private static void refusedAdds(Due due) {
        Bench b = busy(due);
        b.add("(", Bench.BAD);
        b.count(0, 4);
        b.count(1, 0);
        // Only the text and THE PLACE are told to change.
        b.add("p(3", Bench.BAD);
        b.type("p(Q)");
        asBefore(due, b);
    }

    private static void refusedDrops(Due due) {
        Bench b = busy(due);
        b.drop(3, Bench.BAD);
        b.drop(-1, Bench.BAD);
        b.drop(Integer.MAX_VALUE, Bench.BAD);
        asBefore(due, b);
    }

    /** What is asked and the text go, and a bad text tells its place; nothing else changes. */
    private static void refusedAsks(Due due) {
        String[][] asked = {{",", Bench.BAD}, {",p(0)", Bench.NONE}, {",1<a", Bench.UNFIT}, {",X=f(X),X=f(Y),X=Y,Y=X", Bench.STATE}};
        for (String[] one : asked) {
            Bench b = busy(due);
            b.ask(one[0], one[1]);
            b.count(0, one[1].equals(Bench.BAD) ? 5 : 3);
            b.count(1, 0);
            b.count(2, 3);
            b.nothingAsked();
            b.ask("p(X)", "2");
            b.next("3");
            b.next("4");
            b.value('X', "f(_)");
            b.next(Bench.NONE);
        }
    }

    private static void refusedNexts(Due due) {
        Bench b = busy(due);
        b.next("17");
        b.next("25");
        b.value('Z', "g(f(_),_)");
        b.next(Bench.NONE);
        b.nothingAsked();
        b.count(0, 3);
        b.count(1, 4);
        b.count(2, 3);
        b.ask("", "2");
        b.value('Q', "1");
    }

    private static void refusedLooks(Due due) {
        Bench b = busy(due);
        b.letter(26, 0, Bench.BAD);
        b.letter(0, 0, Bench.NONE);
        b.letter(23, 1, Bench.NONE);
        b.letter(25, 80, Bench.NONE);
        b.sleeping(26, Bench.BAD);
        b.sleeping(-1, Bench.BAD);
        b.count(7, -1);
        asBefore(due, b);
    }

    /** An object is used for 512 calls; the last ones are answered like the first. */
    private static void allCallsOfAnObject(Due due) {
        Bench b = new Bench(due, "p(1)", "p(2)", "l:l");
        for (int call = 6; call + 11 <= 512; call += 11) {
            b.ask("p(X)", "2");
            b.next("3");
            b.next(Bench.NONE);
            b.ask("l", Bench.STATE);
            b.ask("p(", Bench.BAD);
            b.drop(2, "gone");
            b.add("l:l", "3");
        }
    }
}
