/** Promise 2: type. */
public final class TypeTest {
    public static void main(String[] args) {
        Due due = new Due();
        bytesInOrder(due);
        whichBytesAreRight(due);
        howManyThereMayBe(due);
        due.end();
    }

    private static void bytesInOrder(Due due) {
        Bench b = new Bench(due);
        b.type(0L, "0");
        b.type(Bench.eight("f(a,b)"), "6");
        b.type(0x3D00580000000000L, "8");
        b.count(1, 8);
        b.ask("", "2");
        b.count(1, 0);
        b.value('X', "f(a,b)");
        b.type(0x0000210000000000L, "1");
        b.type(0x002C000000000021L, "3");
        b.ask("", "2");
    }

    private static void whichBytesAreRight(Due due) {
        for (int shift = 0; shift < 64; shift += 8) {
            for (long one = 1; one < 256; one++) {
                Bench b = new Bench(due);
                boolean right = one >= 33 && one <= 126;
                b.type(one << shift, right ? "1" : Bench.BAD);
                b.count(1, right ? 1 : 0);
            }
        }
        Bench b = new Bench(due);
        b.type(Bench.eight("abc") << 8 | 32, Bench.BAD);
        b.type(-1L, Bench.BAD);
        b.type(Long.MIN_VALUE | Bench.eight("abc"), Bench.BAD);
        b.count(1, 0);
    }

    private static void howManyThereMayBe(Due due) {
        Bench b = new Bench(due);
        for (int length = 8; length <= 40; length += 8) {
            b.type(Bench.eight("!,!,!,!,"), String.valueOf(length));
        }
        b.type(Bench.eight("!,!,!,!"), "47");
        b.type(Bench.eight(",!"), Bench.STATE);
        b.count(1, 47);
        b.type(Bench.eight(","), "48");
        b.type(Bench.eight("a"), Bench.STATE);
        b.type(0L, "48");
        b.type(Bench.eight("\u007f"), Bench.BAD);
        b.count(1, 48);
        b.ask("", Bench.BAD);
        b.count(0, 48);
    }
}
