import com.sun.management.ThreadMXBean;
import java.lang.management.ManagementFactory;

/**
 * All calls of a run share one room of 7.3 million fields and elements. Some 512 calls of the dearest kind may make
 * no more than half as many, counted as four bytes each, which also pays for the objects' heads.
 */
public final class RoomTest {
    private static final long MOST_BYTES = 7_300_000L / 2 * 4;

    public static void main(String[] args) {
        Due due = new Due();
        dear(due, "variables", "l:A=B,C=D,E=F,G=H,I=J,K=L,M=N,O=P,Q=R,l", "l");
        dear(due, "made but not used", "l:l,A=B,C=D,E=F,G=H,I=J,K=L,M=N,O=P,Q=R,S=T", "l");
        dear(due, "goals", "l:l,l,l,l,l,l,l,l,l,l,l,l,l,l,l,l,l,l,l,l,l,l,l", "l");
        dear(due, "sleepers", "l(X):X?l(X),Y?l(Y),X=Y,l(Y)", "l(X)");
        dear(due, "aparts", "l(X):X~Y,l(Y)", "l(X)");
        dear(due, "pairs", "l:X=f(X,X,X),Y=f(Y,Y,Y),X=Y", "l");
        dear(due, "terms", "l(X):l(f(X,g(X),h(X,X,X)))", "l(1)");
        due.end();
    }

    private static void dear(Due due, String what, String clause, String question) {
        run(due, clause, question);
        ThreadMXBean threads = (ThreadMXBean) ManagementFactory.getThreadMXBean();
        long before = threads.getThreadAllocatedBytes(Thread.currentThread().getId());
        run(due, clause, question);
        long made = threads.getThreadAllocatedBytes(Thread.currentThread().getId()) - before;
        due.same(what + " made " + made + " bytes: few enough", String.valueOf(made <= MOST_BYTES), "true");
    }

    private static void run(Due due, String clause, String question) {
        Bench b = new Bench(due, clause, clause);
        for (int call = 0; call < 490; call += 2) {
            b.ask(question, Bench.STATE);
        }
    }
}
