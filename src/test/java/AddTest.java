/** Promise 3: add, and how a clause is read. */
public final class AddTest {
    public static void main(String[] args) {
        Due due = new Due();
        clausesComeLast(due);
        rightTexts(due);
        wrongTexts(due);
        shorterTexts(due);
        twelveAreThere(due);
        whatIsAskedAfterAdd(due);
        due.end();
    }

    private static void clausesComeLast(Due due) {
        Bench b = new Bench(due, "p(2)", "p(1)", "p(X):X=3");
        b.ask("p(X)", "2");
        b.value('X', "2");
        b.next("3");
        b.value('X', "1");
        b.next("6");
        b.value('X', "3");
        b.next(Bench.NONE);
    }

    private static void rightTexts(Due due) {
        String[] texts = {"a", "a(1)", "a(X,y,Z)", "a:!", "a:b", "a:b,!,c(X)", "a:X=Y", "a:1=1,a=b", "a:f(X)~g(Y)",
            "a:X<Y", "a:a<1", "a:X?b", "a:f(1)?b(X)", "a(b(c(d(e(f)))))", "a(1,2,b(c(d(e(6))))):a(b(c(d(e(f)))))",
            "a:b(c(d(e(f(1)))))=X", "a:X?b(c(d(e(f(Z)))))", "z(0,9,Z)", "a:!,!,!,!,!,!,!,!,!,!,!,!,!,!,!,!,!,!,!,!,!,!,!"};
        for (String text : texts) {
            Bench b = new Bench(due);
            b.add(text, "1");
            b.count(0, -1);
            b.count(1, 0);
        }
    }

    private static void wrongTexts(Due due) {
        wrong(due, "", 0);
        wrong(due, "X", 0);
        wrong(due, "1", 0);
        wrong(due, "!", 0);
        wrong(due, "(", 0);
        wrong(due, "aa", 1);
        wrong(due, "a=b", 1);
        wrong(due, "a,b", 1);
        wrong(due, "a)", 1);
        wrong(due, "a(", 2);
        wrong(due, "a()", 2);
        wrong(due, "a(!)", 2);
        wrong(due, "a(,", 2);
        wrong(due, "a(1(", 3);
        wrong(due, "a(X(", 3);
        wrong(due, "a(1", 3);
        wrong(due, "a(1,", 4);
        wrong(due, "a(1,2,3", 7);
        wrong(due, "a(1,2,3,", 7);
        wrong(due, "a(b(c(d(e(f(g", 11);
        wrong(due, "a(1,b(c(d(e(f(g", 13);
        wrong(due, "a:", 2);
        wrong(due, "a::", 2);
        wrong(due, "a:b:c", 3);
        wrong(due, "a:X", 3);
        wrong(due, "a:X,b", 3);
        wrong(due, "a:1", 3);
        wrong(due, "a:!b", 3);
        wrong(due, "a:!=b", 3);
        wrong(due, "a:b,", 4);
        wrong(due, "a:b,,", 4);
        wrong(due, "a:X=", 4);
        wrong(due, "a:X=!", 4);
        wrong(due, "a:X=Y=Z", 5);
        wrong(due, "a:X?Y", 4);
        wrong(due, "a:X?1", 4);
        wrong(due, "a:X?!", 4);
        wrong(due, "a:X?b=c", 5);
        wrong(due, "a:f(X)~", 7);
        wrong(due, "a:f(X)<g(", 9);
        wrong(due, "a:f(b(c(d(e(f=X", 13);
        wrong(due, "a:X=f(b(c(d(e(f(", 15);
        wrong(due, "a:_=X", 2);
        wrong(due, "a(b)c", 4);
        wrong(due, "aaaaaaaaaaaaaaaaaaaaaaaaaaaaaaaaaaaaaaaaaaaaaaaa", 1);
    }

    private static void wrong(Due due, String text, int place) {
        Bench b = new Bench(due);
        b.add(text, Bench.BAD);
        b.count(0, place);
        b.count(1, 0);
        b.count(2, 0);
        b.add("a", "1");
        b.count(0, place);
    }

    /** What an earlier, longer text left behind its end is no part of a text. */
    private static void shorterTexts(Due due) {
        Bench b = new Bench(due, "a(1):b,c");
        b.add("a(1", Bench.BAD);
        b.count(0, 3);
        b.add("a(1):b,", Bench.BAD);
        b.count(0, 7);
        b.add("a", "2");
        b.ask("a", "1");
        b.ask("a(1)", Bench.NONE);
    }

    private static void twelveAreThere(Due due) {
        Bench b = new Bench(due, "p(1)", "p(2)", "a", "a", "a", "a", "a", "a", "a", "a", "a", "a");
        b.add("q(", Bench.STATE);
        b.count(0, -1);
        b.count(1, 0);
        b.add("", Bench.STATE);
        b.add("p(3)", Bench.STATE);
        b.count(2, 12);
        b.ask("p(X)", "2");
        b.add("p(3)", Bench.STATE);
        b.next("3");
        b.value('X', "2");
        b.next(Bench.NONE);
        b.drop(0, "gone");
        b.add("q(", Bench.BAD);
        b.count(0, 2);
        b.add("p(3)", "12");
        b.ask("p(X)", "2");
        b.next("3");
        b.value('X', "3");
    }

    private static void whatIsAskedAfterAdd(Due due) {
        Bench b = new Bench(due, "p(1)", "p(2)");
        b.ask("p(X)", "2");
        b.add("p(3):", Bench.BAD);
        b.counts(1, 1, 0, 1);
        b.value('X', "1");
        b.add("p(3)", "3");
        b.counts(0, 0, 0, 0);
        b.value('X', Bench.NONE);
        b.sleeping('X', -1);
        b.next(Bench.NONE);
    }
}
