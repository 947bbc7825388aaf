/** Promise 2: type. */
public final class TypeTest {
    private static final String CUTS_40 = "!,!,!,!,!,!,!,!,!,!,!,!,!,!,!,!,!,!,!,!,";

    public static void main(String[] args) {
        Due due = new Due();
        highestFirst(due);
        zerosAreLeftOut(due);
        whichBytesAreRight(due);
        oneWrongAmongRightOnes(due);
        fortyEight(due);
        moreThanFortyEight(due);
        thenNoneIsAdded(due);
        addedToTheText(due);
        nothingElseChanges(due);
        due.end();
    }

    private static void highestFirst(Due due) {
        Bench b = new Bench(due);
        b.type(0x583D66286162632CL, "8");
        b.type(0x313233343536372CL, "16");
        b.ask("", Bench.BAD);
        b.count(0, 5);
        b.type(0x583D6628612C622CL, "8");
        b.type(0x6729L, "10");
        b.ask("", "2");
        b.value('X', "f(a,b,g)");
        b.type(0x7E7E7E7E7E7E7E21L, "8");
        b.ask("", Bench.BAD);
        b.count(0, 0);
    }

    /** "Those that are 0 left out", wherever they stand; all eight may be. */
    private static void zerosAreLeftOut(Due due) {
        Bench b = new Bench(due);
        b.type(0L, "0");
        b.ask("", Bench.BAD);
        b.count(0, 0);
        b.type(0x5800000000000000L, "1");
        b.type(0x000000003D000000L, "2");
        b.type(0x0000000000000031L, "3");
        b.type(0L, "3");
        b.ask("", "2");
        b.value('X', "1");
        b.type(0x0058003D00660028L, "4");
        b.type(0x6100290000000000L, "6");
        b.ask("", "2");
        b.value('X', "f(a)");
    }

    /** "One not 33 .. 126: bad": each of the 256 at each of the eight places. */
    private static void whichBytesAreRight(Due due) {
        for (int shift = 0; shift < 64; shift += 8) {
            for (long one = 0; one < 256; one++) {
                Bench b = new Bench(due);
                boolean right = one == 0 || one >= 33 && one <= 126;
                int length = one != 0 && right ? 1 : 0;
                b.type(one << shift, right ? String.valueOf(length) : Bench.BAD);
                b.count(1, length);
            }
        }
    }

    /** A wrong byte refuses the right ones before and behind it too. */
    private static void oneWrongAmongRightOnes(Due due) {
        long[] wrong = {1, 10, 31, 32, 127, 128, 160, 255};
        for (int shift = 0; shift < 64; shift += 8) {
            for (long one : wrong) {
                Bench b = new Bench(due);
                long seven = Bench.eight("aaaaaaaa") & ~(255L << shift);
                b.type(seven | one << shift, Bench.BAD);
                b.count(1, 0);
                b.type(seven | 33L << shift, "8");
            }
        }
        Bench b = new Bench(due);
        b.type(-1L, Bench.BAD);
        b.type(Long.MIN_VALUE, Bench.BAD);
        b.type(Long.MAX_VALUE, Bench.BAD);
        b.type(0x2020202020202020L, Bench.BAD);
        b.type(0x2121212121212121L, "8");
        b.type(0x7E7E7E7E7E7E7E7EL, "16");
        b.type(0x7F7F7F7F7F7F7F7FL, Bench.BAD);
        b.count(1, 16);
    }

    private static void fortyEight(Due due) {
        Bench b = new Bench(due);
        for (int length = 8; length <= 48; length += 8) {
            b.type(Bench.eight("aaaaaaaa"), String.valueOf(length));
        }
        b.count(1, 48);
        b.type(0L, "48");
        b.ask("", Bench.BAD);
        b.count(1, 0);
        for (int length = 1; length <= 48; length++) {
            b.type('a', String.valueOf(length));
        }
        b.type('a', Bench.STATE);
        b.count(1, 48);
    }

    /** "More than 48 in all: IllegalStateException": by one, or by eight; bytes that are 0 don't count. */
    private static void moreThanFortyEight(Due due) {
        for (int there = 40; there <= 48; there++) {
            Bench b = new Bench(due);
            b.type("a".repeat(there));
            for (int more = 8; more > 48 - there; more--) {
                b.type(Bench.eight("bbbbbbbb".substring(0, more)), Bench.STATE);
                b.type(Bench.eight("bbbbbbbb".substring(0, more)) << 8 * (8 - more), Bench.STATE);
                b.count(1, there);
            }
            b.type(Bench.eight("bbbbbbbb".substring(0, 48 - there)), "48");
        }
    }

    /** "Then none is added": not even those for which there was room. */
    private static void thenNoneIsAdded(Due due) {
        Bench b = new Bench(due);
        b.type(CUTS_40 + "!,!,!");
        b.type(Bench.eight(",!,!,!"), Bench.STATE);
        b.count(1, 45);
        b.type(Bench.eight(",!, "), Bench.BAD);
        b.type(Bench.eight(" ,!"), Bench.BAD);
        b.count(1, 45);
        b.type(Bench.eight(",!"), "47");
        b.ask("", "24");
        b.type("X=1");
        b.type(Bench.eight("2\u007f"), Bench.BAD);
        b.ask("", "2");
        b.value('X', "1");
    }

    /** The text goes on until it is read; then the next one begins. */
    private static void addedToTheText(Due due) {
        Bench b = new Bench(due);
        b.type("p(");
        b.type("1");
        b.count(2, 0);
        b.drop(0, Bench.BAD);
        b.next(Bench.NONE);
        b.type(")");
        b.count(1, 4);
        b.add("", "1");
        b.type("p(");
        b.count(1, 2);
        b.ask("X)", "2");
        b.type("p(Y");
        b.drop(0, "gone");
        b.count(1, 3);
        b.ask(")", Bench.NONE);
        b.type("z");
        b.count(1, 1);
    }

    private static void nothingElseChanges(Due due) {
        Bench b = new Bench(due, "p(1)", "p(2)");
        b.add("p(", Bench.BAD);
        b.ask("p(X),Y?z,Y~1", "5");
        b.type("))))))))");
        b.count(0, 2);
        b.count(2, 2);
        b.counts(1, 1, 1, 2);
        b.sleeping('Y', 1);
        b.value('X', "1");
        b.next("9");
        b.value('X', "2");
    }
}
