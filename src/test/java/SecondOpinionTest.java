import java.util.ArrayList;
import java.util.List;
import java.util.Random;
import java.util.function.LongSupplier;

/** Runs of calls drawn from fixed seeds, on a GoalDesk and on a PlainDesk: each answer must be the same. */
public final class SecondOpinionTest {
    private static final int RUNS = 10000;
    // Nothing is promised of later calls.
    private static final int MOST_CALLS = 512;
    private static final String[] LIBRARY = {
        "a(n,L,L)", "a(c(H,T),L,c(H,R)):a(T,L,R)", "m(X,c(X,Y))", "m(X,c(Y,Z)):m(X,Z)", "p(1)", "p(2)", "p(3)",
        "q(X):p(X),!", "q(X):X=f(X)", "r:r", "r(X,Y):p(X),p(Y),X<Y", "s", "s:p(X),X~2,s", "d(X,Y):X~Y,p(X),p(Y)",
        "w(X):X?p(X)", "w(X,Y):X?q(X),Y?p(Y),X=Y", "p(X):X~1,X~Y", "n(z)", "n(s(X)):n(X)", "q(Y):X?s,Y=f(X,X)",
        "b(X,X)", "b(X,Y)", "b(X,Y):X~Y,p(Y)", "s:!", "p(X):q(X),!,s", "r(X,X)", "r(f(X),Y):r(X,f(Y))", "a(A,B,C):D=E,F=G,H=I,J=K,L=M,N=O,P=Q"};
    private static final String[] QUESTIONS = {
        "a(X,Y,c(1,c(2,n)))", "a(X,X,Y)", "m(X,c(1,c(2,c(1,n)))),X~1", "p(X),p(Y),X~Y", "X?p(X),Y?q(Y),Z?s,X=Y,Y=Z",
        "X?p(X),Y?q(Y),X=Z,Z=Y,p(Y)", "r(X,Y)", "d(X,Y)", "w(X),p(X)", "w(X,Y),w(Y),X=2", "n(X)", "s", "s,s",
        "f(X,Y)~f(Y,X),p(X),p(Y)", "X~f(Y),Y~Z,X=f(Z),Z?p(Z)", "p(X),!,p(Y)", "X=f(X),Y=f(Y),X=Y", "q(X),w(X)",
        "V?p(V),W?q(W),X?p(X),Y?s,V=X,W=Y,X=Y,Z=X,p(Z)", "b(X,Y),b(Y,Z),X~Z", "X?s,Y?p(Y),b(X,Y),p(X)",
        "X?w(Y),Y?p(Z),X=1,Y=2", "p(X),X<2,p(Y),Y<X", "f(X,Z)=f(Y,Y),Y?p(X),p(Z)", "X~Y,Y~Z,Z~X,p(X),p(Y),p(Z)"};
    private static final String KEYS = "abpq(),,:!=~<?XYZ12";

    private final Random random;
    private final Due due;
    private final int run;
    private final GoalDesk desk = new GoalDesk();
    private final PlainDesk plain = new PlainDesk();
    private final List<String> told = new ArrayList<>();
    private int calls = 0;

    private SecondOpinionTest(int run, Due due) {
        this.run = run;
        this.due = due;
        random = new Random(run);
    }

    public static void main(String[] args) {
        Due due = new Due();
        for (int run = 1; run <= RUNS && due.wrong() == 0; run++) {
            new SecondOpinionTest(run, due).go();
        }
        due.end();
    }

    private void go() {
        for (int i = random.nextInt(10); i >= 0; i--) {
            clauseAdded();
        }
        while (calls < MOST_CALLS && due.wrong() == 0) {
            switch (random.nextInt(20)) {
                case 0:
                    int gone = random.nextInt(14) - 1;
                    same("drop " + gone, () -> { desk.drop(gone); return 0; }, () -> { plain.drop(gone); return 0; });
                    break;
                case 1:
                    long eight = random.nextLong();
                    same("type " + eight, () -> desk.type(eight), () -> plain.type(eight));
                    break;
                case 2: case 3:
                    clauseAdded();
                    break;
                default:
                    question();
            }
            look();
        }
    }

    private void clauseAdded() {
        type(random.nextInt(4) == 0 ? clause() : LIBRARY[random.nextInt(LIBRARY.length)]);
        same("add", desk::add, plain::add);
    }

    private void question() {
        type(random.nextInt(3) > 0 ? goals(6) : QUESTIONS[random.nextInt(QUESTIONS.length)]);
        same("ask", desk::ask, plain::ask);
        look();
        for (int i = random.nextInt(12); i > 0 && plain.count(3) > 0; i--) {
            same("next", desk::next, plain::next);
            look();
        }
    }

    private void look() {
        for (int what = 0; what <= 6; what++) {
            int w = what;
            same("count " + w, () -> desk.count(w), () -> plain.count(w));
        }
        lookAt(random.nextInt(28) - 1);
        for (int v = 'V' - 'A'; v <= 'Z' - 'A' && plain.count(3) > 0; v++) {
            lookAt(v);
        }
    }

    private void lookAt(int v) {
        same("sleeping " + v, () -> desk.sleeping(v), () -> plain.sleeping(v));
        same("the length of " + v, () -> desk.letter(v, -1), () -> plain.letter(v, -1));
        int sample = random.nextInt(6);
        String length = Due.answer(() -> plain.letter(v, -1));
        for (int i = sample; !length.startsWith("throws") && i <= Integer.parseInt(length); i += 1 + sample) {
            int at = i;
            same("letter " + v + " " + at, () -> desk.letter(v, at), () -> plain.letter(v, at));
        }
    }

    private void same(String call, LongSupplier got, LongSupplier wanted) {
        if (calls >= MOST_CALLS) {
            return;
        }
        calls++;
        String answer = Due.answer(got);
        String opinion = Due.answer(wanted);
        told.add(call + " -> " + opinion);
        due.same(answer.equals(opinion) ? call : "run " + run + " after " + told + ": " + call, answer, opinion);
    }

    private void type(String right) {
        String text = random.nextInt(8) == 0 ? spoiled(right) : right;
        told.add('"' + text + '"');
        for (int from = 0; from < text.length(); from += 8) {
            long eight = 0;
            for (char c : text.substring(from, Math.min(text.length(), from + 8)).toCharArray()) {
                eight = eight << 8 | c;
            }
            long e = eight;
            same("type " + e, () -> desk.type(e), () -> plain.type(e));
        }
    }

    private String spoiled(String right) {
        StringBuilder text = new StringBuilder(right);
        for (int i = random.nextInt(3); i >= 0 && text.length() > 0; i--) {
            int at = random.nextInt(text.length());
            char key = KEYS.charAt(random.nextInt(KEYS.length()));
            switch (random.nextInt(3)) {
                case 0 -> text.deleteCharAt(at);
                case 1 -> text.insert(at, key);
                default -> text.setCharAt(at, key);
            }
        }
        return text.toString();
    }

    private String clause() {
        String text = call(3);
        return random.nextInt(3) == 0 ? text : text + ":" + goals(3);
    }

    private String goals(int most) {
        StringBuilder text = new StringBuilder(goal());
        for (int i = random.nextInt(most); i > 0; i--) {
            text.append(',').append(goal());
        }
        return text.toString();
    }

    private String goal() {
        switch (random.nextInt(12)) {
            case 0:
                return random.nextInt(2) == 0 ? "!" : "1<2";
            case 1:
                return random.nextInt(6) == 0 ? term(1) + "<" + term(1) : variable() + "=" + variable();
            case 2:
                return variable() + "=" + term(3);
            case 3:
                return "f(" + variable() + "," + variable() + ")=" + "f(" + variable() + "," + term(2) + ")";
            case 4: case 5:
                return variable() + "~" + term(2);
            case 6: case 7: case 8:
                return variable() + "?" + call(2);
            default:
                return call(2);
        }
    }

    private String call(int deep) {
        String[] calls = {"p(_)", "q(_)", "r(_,_)", "s", "w(_)", "d(_,_)", "b(_,_)", "p(_)"};
        return filled(calls[random.nextInt(calls.length)], deep);
    }

    private String variable() {
        return String.valueOf((char) ('V' + random.nextInt(5)));
    }

    private String term(int deep) {
        String[] leaves = {"X", "Y", "Z", "X", "W", "1", "2", "n", "a"};
        String[] trees = {"f(_)", "f(_,_)", "c(_,_)", "f(_,_,_)"};
        boolean leaf = deep <= 1 || random.nextInt(3) > 0;
        return leaf ? leaves[random.nextInt(leaves.length)] : filled(trees[random.nextInt(trees.length)], deep);
    }

    private String filled(String shape, int deep) {
        StringBuilder text = new StringBuilder();
        for (char c : shape.toCharArray()) {
            text.append(c == '_' ? term(deep - 1) : String.valueOf(c));
        }
        return text.toString();
    }
}
