import java.util.ArrayList;
import java.util.HashMap;
import java.util.List;
import java.util.Map;
import java.util.NoSuchElementException;
import java.util.regex.Matcher;
import java.util.regex.Pattern;

/**
 * The document's rules once more, as a second opinion: texts are judged by regular expressions, clauses are copied
 * for each use, and a choice keeps a whole copy of the state, so that nothing has to be taken back.
 */
final class PlainDesk {
    private static final String CALL = call(1);
    private static final String TERM = term(1);
    private static final String GOAL = "(?:!|" + CALL + "|" + TERM + "[=~<]" + TERM + "|" + TERM + "\\?" + CALL + ")";
    private static final String GOALS = GOAL + "(?:," + GOAL + ")*";
    private static final Pattern CLAUSE = Pattern.compile(CALL + "(?::" + GOALS + ")?");
    private static final Pattern QUESTION = Pattern.compile(GOALS);

    private static String call(int depth) {
        return depth == 6 ? "[a-z]" : "[a-z](?:\\(" + term(depth + 1) + "(?:," + term(depth + 1) + "){0,2}\\))?";
    }

    private static String term(int depth) {
        return "(?:[A-Z0-9]|" + call(depth) + ")";
    }

    private interface Term { }

    private record Var(int number) implements Term { }

    private record Fun(char letter, List<Term> args) implements Term { }

    private record Goal(char kind, Term a, Term b, int cutTo) { }

    private record Clause(String head, List<String> body, String text) { }

    private record Choice(State state, Fun call, List<Clause> rest) { }

    private static final class State {
        final Map<Integer, Term> bound = new HashMap<>();
        final Map<Integer, List<Fun>> asleep = new HashMap<>();
        final List<Term[]> aparts = new ArrayList<>();
        final List<Goal> goals = new ArrayList<>();

        State copy() {
            State s = new State();
            s.bound.putAll(bound);
            asleep.forEach((v, calls) -> s.asleep.put(v, new ArrayList<>(calls)));
            s.aparts.addAll(aparts);
            s.goals.addAll(goals);
            return s;
        }

        Term value(Term t) {
            while (t instanceof Var v && bound.containsKey(v.number())) {
                t = bound.get(v.number());
            }
            return t;
        }
    }

    private String text = "";
    private int place = -1;
    private final List<Clause> clauses = new ArrayList<>();
    private boolean asked;
    private Map<Character, Var> questionVars;
    private State state;
    private final List<Choice> choices = new ArrayList<>();
    private int steps;
    private int answers;
    private int made;
    private List<Fun> woke;

    int type(long eight) {
        String more = "";
        for (int i = 7; i >= 0; i--) {
            int b = (int) (eight >> (8 * i)) & 255;
            if (b != 0) {
                more += (char) b;
            }
        }
        if (!more.matches("[!-~]*")) {
            throw new IllegalArgumentException();
        }
        if ((text + more).length() > 48) {
            throw new IllegalStateException();
        }
        text += more;
        return text.length();
    }

    int add() {
        String t = text;
        text = "";
        if (clauses.size() == 12) {
            throw new IllegalStateException();
        }
        judge(CLAUSE, t);
        int colon = t.indexOf(':');
        String head = colon < 0 ? t : t.substring(0, colon);
        clauses.add(new Clause(head, colon < 0 ? List.of() : split(t.substring(colon + 1)), t));
        asked = false;
        return clauses.size();
    }

    void drop(int i) {
        if (i < 0 || i >= clauses.size()) {
            throw new IllegalArgumentException();
        }
        clauses.remove(i);
        asked = false;
    }

    int ask() {
        String t = text;
        text = "";
        asked = false;
        judge(QUESTION, t);
        steps = 0;
        answers = 0;
        made = 0;
        choices.clear();
        state = new State();
        questionVars = freshVars(t);
        state.goals.addAll(goals(split(t), questionVars, 0));
        return answer(false);
    }

    int next() {
        if (!asked) {
            throw new NoSuchElementException();
        }
        asked = false;
        return answer(true);
    }

    int letter(int v, int i) {
        if (v < 0 || v > 25) {
            throw new IllegalArgumentException();
        }
        if (!asked || !questionVars.containsKey((char) ('A' + v))) {
            throw new NoSuchElementException();
        }
        StringBuilder out = new StringBuilder();
        write(questionVars.get((char) ('A' + v)), out);
        String written = out.substring(0, Math.min(80, out.length()));
        if (i < -1 || i >= written.length()) {
            throw new NoSuchElementException();
        }
        return i == -1 ? written.length() : written.charAt(i);
    }

    int sleeping(int v) {
        if (v < 0 || v > 25) {
            throw new IllegalArgumentException();
        }
        if (!asked || !questionVars.containsKey((char) ('A' + v))) {
            return -1;
        }
        Term t = state.value(questionVars.get((char) ('A' + v)));
        return t instanceof Var w ? state.asleep.getOrDefault(w.number(), List.of()).size() : 0;
    }

    int count(int what) {
        int[] all = {place, text.length(), clauses.size(), answers, choices.size(),
            state == null ? 0 : state.aparts.size(), made};
        return what < 0 || what > 6 ? -1 : what > 2 && !asked ? 0 : all[what];
    }

    private void judge(Pattern right, String t) {
        if (right.matcher(t).matches()) {
            return;
        }
        place = t.length();
        for (int i = t.length(); i > 0; i--) {
            Matcher m = right.matcher(t.substring(0, i));
            if (!m.matches() && !m.hitEnd()) {
                place = i - 1;
            }
        }
        throw new IllegalArgumentException();
    }

    /** Splits at the commas outside all brackets. */
    private static List<String> split(String t) {
        List<String> parts = new ArrayList<>();
        int depth = 0;
        int from = 0;
        for (int i = 0; i < t.length(); i++) {
            depth += t.charAt(i) == '(' ? 1 : t.charAt(i) == ')' ? -1 : 0;
            if (depth == 0 && t.charAt(i) == ',') {
                parts.add(t.substring(from, i));
                from = i + 1;
            }
        }
        parts.add(t.substring(from));
        return parts;
    }

    private Map<Character, Var> freshVars(String t) {
        Map<Character, Var> vars = new HashMap<>();
        for (char c = 'A'; c <= 'Z'; c++) {
            if (t.indexOf(c) >= 0) {
                vars.put(c, new Var(made++));
            }
        }
        return vars;
    }

    private static Term build(String t, Map<Character, Var> vars) {
        char c = t.charAt(0);
        if (Character.isUpperCase(c)) {
            return vars.get(c);
        }
        List<Term> args = new ArrayList<>();
        if (t.length() > 1) {
            for (String part : split(t.substring(2, t.length() - 1))) {
                args.add(build(part, vars));
            }
        }
        return new Fun(c, args);
    }

    private static List<Goal> goals(List<String> texts, Map<Character, Var> vars, int cutTo) {
        List<Goal> all = new ArrayList<>();
        for (String t : texts) {
            Matcher m = Pattern.compile("(.*)([=~<?])(.*)").matcher(t);
            if (t.equals("!")) {
                all.add(new Goal('!', null, null, cutTo));
            } else if (m.matches()) {
                all.add(new Goal(m.group(2).charAt(0), build(m.group(1), vars), build(m.group(3), vars), cutTo));
            } else {
                all.add(new Goal('c', build(t, vars), null, cutTo));
            }
        }
        return all;
    }

    private void step() {
        if (steps == 500) {
            throw new IllegalStateException();
        }
        steps++;
    }

    private int answer(boolean failing) {
        boolean failed = failing;
        while (true) {
            if (failed) {
                if (choices.isEmpty()) {
                    throw new NoSuchElementException();
                }
                Choice c = choices.remove(choices.size() - 1);
                state = c.state();
                failed = !take(c.call(), c.rest());
            } else if (state.goals.isEmpty()) {
                answers++;
                asked = true;
                return steps;
            } else {
                step();
                failed = !perform(state.goals.remove(0));
            }
        }
    }

    private boolean perform(Goal g) {
        switch (g.kind()) {
            case '!':
                while (choices.size() > g.cutTo()) {
                    choices.remove(choices.size() - 1);
                }
                return true;
            case 'c':
                Fun call = (Fun) g.a();
                List<Clause> fit = new ArrayList<>();
                for (Clause c : clauses) {
                    Fun head = (Fun) build(c.head(), freeVars());
                    if (head.letter() == call.letter() && head.args().size() == call.args().size()) {
                        fit.add(c);
                    }
                }
                return !fit.isEmpty() && take(call, fit);
            case '=':
                return make(List.of(g.a()), List.of(g.b()), List.of());
            case '~':
                Boolean waits = test(g.a(), g.b());
                if (waits == null) {
                    return false;
                }
                if (waits) {
                    state.aparts.add(new Term[] {g.a(), g.b()});
                }
                return true;
            case '<':
                return digit(g.a()) < digit(g.b());
            default:
                if (state.value(g.a()) instanceof Var v) {
                    state.asleep.computeIfAbsent(v.number(), k -> new ArrayList<>()).add((Fun) g.b());
                } else {
                    state.goals.add(0, new Goal('c', g.b(), null, 0));
                }
                return true;
        }
    }

    private static Map<Character, Var> freeVars() {
        Map<Character, Var> vars = new HashMap<>();
        for (char c = 'A'; c <= 'Z'; c++) {
            vars.put(c, new Var(-1));
        }
        return vars;
    }

    private char digit(Term t) {
        if (state.value(t) instanceof Fun f && Character.isDigit(f.letter())) {
            return f.letter();
        }
        throw new UnsupportedOperationException();
    }

    private boolean take(Fun call, List<Clause> fit) {
        int cutTo = choices.size();
        if (fit.size() > 1) {
            choices.add(new Choice(state.copy(), call, fit.subList(1, fit.size())));
        }
        Clause c = fit.get(0);
        Map<Character, Var> vars = freshVars(c.text());
        return make(((Fun) build(c.head(), vars)).args(), call.args(), goals(c.body(), vars, cutTo));
    }

    private boolean make(List<Term> ones, List<Term> others, List<Goal> body) {
        woke = new ArrayList<>();
        int before = state.bound.size();
        for (int i = 0; i < ones.size(); i++) {
            if (!same(ones.get(i), others.get(i))) {
                return false;
            }
        }
        if (state.bound.size() > before) {
            List<Fun> kept = woke;
            List<Term[]> still = new ArrayList<>();
            for (Term[] apart : state.aparts) {
                Boolean waits = test(apart[0], apart[1]);
                if (waits == null) {
                    return false;
                }
                if (waits) {
                    still.add(apart);
                }
            }
            state.aparts.clear();
            state.aparts.addAll(still);
            woke = kept;
        }
        state.goals.addAll(0, body);
        List<Goal> front = new ArrayList<>();
        for (Fun f : woke) {
            front.add(new Goal('c', f, null, 0));
        }
        state.goals.addAll(0, front);
        return true;
    }

    /** Whether it waits on; null if the test fails. */
    private Boolean test(Term a, Term b) {
        State real = state;
        List<Fun> realWoke = woke;
        state = real.copy();
        woke = new ArrayList<>();
        boolean same = same(a, b);
        boolean bound = state.bound.size() > real.bound.size();
        state = real;
        woke = realWoke;
        return same && !bound ? null : Boolean.valueOf(same);
    }

    private boolean same(Term one, Term other) {
        step();
        Term a = state.value(one);
        Term b = state.value(other);
        if (a instanceof Var v && b instanceof Var w) {
            if (v.number() < w.number()) {
                join(w, v);
            } else if (w.number() < v.number()) {
                join(v, w);
            }
            return true;
        }
        if (a instanceof Var v) {
            give(v, b);
            return true;
        }
        if (b instanceof Var w) {
            give(w, a);
            return true;
        }
        Fun f = (Fun) a;
        Fun g = (Fun) b;
        if (f.letter() != g.letter() || f.args().size() != g.args().size()) {
            return false;
        }
        for (int i = 0; i < f.args().size(); i++) {
            if (!same(f.args().get(i), g.args().get(i))) {
                return false;
            }
        }
        return true;
    }

    private void join(Var greater, Var lesser) {
        state.bound.put(greater.number(), lesser);
        List<Fun> moved = state.asleep.remove(greater.number());
        if (moved != null) {
            state.asleep.computeIfAbsent(lesser.number(), k -> new ArrayList<>()).addAll(moved);
        }
    }

    private void give(Var v, Term t) {
        state.bound.put(v.number(), t);
        List<Fun> gone = state.asleep.remove(v.number());
        if (gone != null) {
            woke.addAll(gone);
        }
    }

    private void write(Term term, StringBuilder out) {
        if (out.length() >= 80) {
            return;
        }
        if (!(state.value(term) instanceof Fun f)) {
            out.append('_');
            return;
        }
        out.append(f.letter());
        for (int i = 0; i < f.args().size(); i++) {
            out.append(i == 0 ? '(' : ',');
            write(f.args().get(i), out);
        }
        out.append(f.args().isEmpty() ? "" : ")");
    }
}
