import java.util.ArrayList;
import java.util.Arrays;
import java.util.NoSuchElementException;

/** A desk for logic: clauses are read, questions are asked, and answers come one after another. */
public final class GoalDesk {
    private static final int MOST_TEXT = 48;
    private static final int MOST_CLAUSES = 12;
    private static final int MOST_STEPS = 500;
    private static final int MOST_DEPTH = 6;
    private static final int MOST_ARGUMENTS = 3;
    private static final int MOST_WRITTEN = 80;
    private static final int ALPHABET = 26;
    // A goal has at least one character, and a comma stands between two.
    private static final int MOST_GOALS = MOST_TEXT / 2;
    private static final int NODES = (MOST_CLAUSES + 1) * MOST_TEXT;
    // Far above what 500 STEPS allow: every second round takes a STEP.
    private static final int MOST_ROUNDS = 1000000;
    private static final int FIRST_ROWS = 128;

    private static final int NONE = -1;
    // Below ~number of every variable.
    private static final int FREE = -2147483648;

    private static final char CUT = '!';
    private static final char CALL = '(';
    private static final char SAME = '=';
    private static final char APART = '~';
    private static final char LESS = '<';
    private static final char SLEEP = '?';

    private final char[] text = new char[MOST_TEXT];
    private int length = 0;
    private int place = NONE;
    private final Clause[] clauses = new Clause[MOST_CLAUSES];
    private int clauseCount = 0;
    private final Clause question;
    private boolean asked = false;
    private final Reader reader;
    private final Search search;
    private final Writer writer;

    public GoalDesk() {
        Terms terms = new Terms();
        Variables variables = new Variables(terms);
        for (int i = 0; i < MOST_CLAUSES; i++) {
            clauses[i] = new Clause(i * MOST_TEXT);
        }
        question = new Clause(MOST_CLAUSES * MOST_TEXT);
        reader = new Reader(terms);
        search = new Search(terms, variables);
        writer = new Writer(terms, variables);
    }

    public int type(long eight) throws IllegalArgumentException, IllegalStateException {
        int more = 0;
        for (int shift = 56; shift >= 0; shift -= 8) {
            int one = (int) (eight >>> shift) & 255;
            if (one != 0 && (one < 33 || one > 126)) {
                throw new IllegalArgumentException();
            }
            more += one == 0 ? 0 : 1;
        }
        if (length + more > MOST_TEXT) {
            throw new IllegalStateException();
        }
        for (int shift = 56; shift >= 0; shift -= 8) {
            int one = (int) (eight >>> shift) & 255;
            if (one != 0) {
                text[length] = (char) one;
                length++;
            }
        }
        return length;
    }

    public int add() throws IllegalArgumentException, IllegalStateException {
        int end = length;
        length = 0;
        if (clauseCount >= MOST_CLAUSES) {
            throw new IllegalStateException();
        }
        // The row behind the last clause is in nobody's use, so a bad text leaves what is asked alone.
        if (!reader.readClause(text, end, clauses[clauseCount])) {
            place = reader.at;
            throw new IllegalArgumentException();
        }
        clauseCount++;
        asked = false;
        return clauseCount;
    }

    public void drop(int i) throws IllegalArgumentException {
        if (i < 0 || i >= clauseCount) {
            throw new IllegalArgumentException();
        }
        Clause gone = clauses[i];
        clauseCount--;
        for (int k = i; k < clauseCount; k++) {
            clauses[k] = clauses[k + 1];
        }
        // Kept behind the others, to be read into again.
        clauses[clauseCount] = gone;
        asked = false;
    }

    public int ask() throws IllegalArgumentException, NoSuchElementException, IllegalStateException,
            UnsupportedOperationException {
        int end = length;
        length = 0;
        asked = false;
        if (!reader.readQuestion(text, end, question)) {
            place = reader.at;
            throw new IllegalArgumentException();
        }
        search.begin(question, clauses, clauseCount);
        asked = search.seek(true);
        if (!asked) {
            throw new NoSuchElementException();
        }
        return search.steps.taken;
    }

    public int next() throws NoSuchElementException, IllegalStateException, UnsupportedOperationException {
        if (!asked) {
            throw new NoSuchElementException();
        }
        // Stays so if the search throws: then nothing is asked any more.
        asked = false;
        asked = search.seek(false);
        if (!asked) {
            throw new NoSuchElementException();
        }
        return search.steps.taken;
    }

    public int letter(int v, int i) throws IllegalArgumentException, NoSuchElementException {
        if (v < 0 || v >= ALPHABET) {
            throw new IllegalArgumentException();
        }
        if (!asked || question.rank[v] == NONE) {
            throw new NoSuchElementException();
        }
        int written = writer.write(question.rank[v]);
        if (i == -1) {
            return written;
        }
        if (i < 0 || i >= written) {
            throw new NoSuchElementException();
        }
        return writer.written[i];
    }

    public int sleeping(int v) throws IllegalArgumentException {
        if (v < 0 || v >= ALPHABET) {
            throw new IllegalArgumentException();
        }
        if (!asked || question.rank[v] == NONE) {
            return -1;
        }
        return search.variables.asleepOn(question.rank[v]);
    }

    public int count(int what) {
        switch (what) {
            case 0:
                return place;
            case 1:
                return length;
            case 2:
                return clauseCount;
            case 3:
                return asked ? search.answers : 0;
            case 4:
                return asked ? search.choiceCount : 0;
            case 5:
                return asked ? search.aparts.waitingNow() : 0;
            case 6:
                return asked ? search.variables.cameToBe : 0;
            default:
                return -1;
        }
    }

    private static boolean isVariable(char c) {
        return c >= 'A' && c <= 'Z';
    }

    private static boolean isDigit(char c) {
        return c >= '0' && c <= '9';
    }

    private static boolean isSmall(char c) {
        return c >= 'a' && c <= 'z';
    }

    /**
     * The terms of all texts that are kept. A node is where a term begins in its text; a term is a node together
     * with the number of the first variable of one use of the text, so that using a clause copies nothing.
     */
    private static final class Terms {
        private final char[] letters = new char[NODES];
        private final int[] arity = new int[NODES];
        private final int[] arguments = new int[NODES * MOST_ARGUMENTS];
        private final int[] rank = new int[NODES];

        private int termOf(int node, int base) {
            return base * NODES + node;
        }

        private char letterOf(int term) {
            return letters[term % NODES];
        }

        private int arityOf(int term) {
            return arity[term % NODES];
        }

        private int argumentOf(int term, int k) {
            int node = term % NODES;
            return term - node + arguments[node * MOST_ARGUMENTS + k];
        }

        private int variableOf(int term) {
            return term / NODES + rank[term % NODES];
        }
    }

    /** A text that was read: a clause, whose head stands at its start, or a question. */
    private static final class Clause {
        private final int start;
        private final char[] sign = new char[MOST_GOALS];
        private final int[] left = new int[MOST_GOALS];
        private final int[] right = new int[MOST_GOALS];
        private int goals = 0;
        private final int[] rank = new int[ALPHABET];
        private int variables = 0;

        private Clause(int start) {
            this.start = start;
        }

        private void putGoal(char goalSign, int leftNode, int rightNode) {
            if (goals < MOST_GOALS) {
                sign[goals] = goalSign;
                left[goals] = leftNode;
                right[goals] = rightNode;
                goals++;
            }
        }
    }

    /** Reads a text from left to right; where it stops at a wrong character, or at the end, is THE PLACE. */
    private static final class Reader {
        private final Terms terms;
        private char[] text;
        private int end = 0;
        private int at = 0;
        private Clause into;

        private Reader(Terms terms) {
            this.terms = terms;
        }

        private boolean readClause(char[] from, int length, Clause clause) {
            begin(from, length, clause);
            if (!isSmall(here()) || !readTerm(1)) {
                return false;
            }
            if (at < end && !(skip(':') && readGoals())) {
                return false;
            }
            rankVariables();
            return true;
        }

        private boolean readQuestion(char[] from, int length, Clause clause) {
            begin(from, length, clause);
            if (!readGoals()) {
                return false;
            }
            rankVariables();
            return true;
        }

        private void begin(char[] from, int length, Clause clause) {
            text = from;
            end = length;
            at = 0;
            into = clause;
            into.goals = 0;
        }

        private char here() {
            return at < end ? text[at] : 0;
        }

        private boolean skip(char c) {
            if (at >= end || text[at] != c) {
                return false;
            }
            at++;
            return true;
        }

        private boolean readGoals() {
            for (int i = 0; i < MOST_GOALS; i++) {
                if (!readGoal()) {
                    return false;
                }
                if (at == end) {
                    return true;
                }
                if (!skip(',')) {
                    return false;
                }
            }
            return false;
        }

        private boolean readGoal() {
            if (skip(CUT)) {
                into.putGoal(CUT, 0, 0);
                return true;
            }
            int left = into.start + at;
            boolean call = isSmall(here());
            if (!readTerm(1)) {
                return false;
            }
            char sign = here();
            if (call && (at == end || sign == ',')) {
                into.putGoal(CALL, left, left);
                return true;
            }
            if (sign != SAME && sign != APART && sign != LESS && sign != SLEEP) {
                return false;
            }
            at++;
            int right = into.start + at;
            if (sign == SLEEP && !isSmall(here()) || !readTerm(1)) {
                return false;
            }
            into.putGoal(sign, left, right);
            return true;
        }

        private boolean readTerm(int depth) {
            char c = here();
            if (!isVariable(c) && !isDigit(c) && !isSmall(c)) {
                return false;
            }
            int node = into.start + at;
            terms.letters[node] = c;
            terms.arity[node] = 0;
            at++;
            if (!isSmall(c) || here() != '(') {
                return true;
            }
            return depth < MOST_DEPTH && readArguments(node, depth + 1);
        }

        private boolean readArguments(int node, int depth) {
            at++;
            for (int k = 0; k < MOST_ARGUMENTS; k++) {
                terms.arguments[node * MOST_ARGUMENTS + k] = into.start + at;
                terms.arity[node] = k + 1;
                if (!readTerm(depth)) {
                    return false;
                }
                if (skip(')')) {
                    return true;
                }
                if (k + 1 == MOST_ARGUMENTS || !skip(',')) {
                    return false;
                }
            }
            return false;
        }

        /** Variables come to be in the order of the alphabet, not in that of the text. */
        private void rankVariables() {
            Arrays.fill(into.rank, NONE);
            for (int i = 0; i < end; i++) {
                if (isVariable(text[i])) {
                    into.rank[text[i] - 'A'] = 0;
                }
            }
            into.variables = 0;
            for (int v = 0; v < ALPHABET; v++) {
                if (into.rank[v] != NONE) {
                    into.rank[v] = into.variables;
                    into.variables++;
                }
            }
            for (int i = 0; i < end; i++) {
                if (isVariable(text[i])) {
                    terms.rank[into.start + i] = into.rank[text[i] - 'A'];
                }
            }
        }
    }

    /** The STEPS since ask began. */
    private static final class Steps {
        private int taken = 0;

        private void takeOne() {
            if (taken >= MOST_STEPS) {
                throw new IllegalStateException();
            }
            taken++;
        }
    }

    /**
     * The variables of one question, what they are bound to, and the calls that sleep on them. A value is a term, or
     * ~number for a variable that is free. Rows of MOST_STEPS are never full: each entry in them has cost a STEP.
     */
    private static final class Variables {
        private final Terms terms;
        private int[] bound = new int[FIRST_ROWS];
        private int[] firstAsleep = new int[FIRST_ROWS];
        private int[] lastAsleep = new int[FIRST_ROWS];
        private int made = 0;
        private int cameToBe = 0;
        private final int[] boundOnes = new int[MOST_STEPS];
        private int boundCount = 0;
        private final int[] sleeper = new int[MOST_STEPS];
        private final int[] sleeperBehind = new int[MOST_STEPS];
        private int sleepers = 0;
        private final int[] grownOn = new int[MOST_STEPS];
        private final int[] grownBehind = new int[MOST_STEPS];
        private int grownCount = 0;

        private Variables(Terms terms) {
            this.terms = terms;
        }

        private void clear() {
            made = 0;
            cameToBe = 0;
            boundCount = 0;
            sleepers = 0;
            grownCount = 0;
        }

        /** Makes so many variables and answers the number of the first. */
        private int make(int many) {
            int first = made;
            if (first + many > bound.length) {
                int rows = 2 * (first + many);
                bound = Arrays.copyOf(bound, rows);
                firstAsleep = Arrays.copyOf(firstAsleep, rows);
                lastAsleep = Arrays.copyOf(lastAsleep, rows);
            }
            made = first + many;
            cameToBe += many;
            for (int v = first; v < made; v++) {
                bound[v] = FREE;
                firstAsleep[v] = NONE;
                lastAsleep[v] = NONE;
            }
            return first;
        }

        private int valueOf(int term) {
            int value = term;
            // Each variable is bound to a term or to one made before it, so no chain is longer than this.
            for (int i = 0; i <= made; i++) {
                if (value >= 0) {
                    if (!isVariable(terms.letterOf(value))) {
                        return value;
                    }
                    value = ~terms.variableOf(value);
                }
                if (bound[~value] == FREE) {
                    return value;
                }
                value = bound[~value];
            }
            return value;
        }

        private void bind(int variable, int value) {
            if (boundCount < MOST_STEPS) {
                bound[variable] = value;
                boundOnes[boundCount] = variable;
                boundCount++;
            }
        }

        /** Frees what was bound when there were more than so many. */
        private void free(int kept) {
            for (int i = kept; i < boundCount; i++) {
                bound[boundOnes[i]] = FREE;
            }
            boundCount = kept;
        }

        private void putToSleep(int variable, int call) {
            if (sleepers < MOST_STEPS) {
                int one = sleepers;
                sleepers++;
                sleeper[one] = call;
                sleeperBehind[one] = NONE;
                linkBehind(variable, one, one);
            }
        }

        /** Lets a chain of sleepers, which may be none, sleep on the variable behind those there. */
        private void linkBehind(int variable, int first, int last) {
            if (first == NONE || grownCount >= MOST_STEPS) {
                return;
            }
            grownOn[grownCount] = variable;
            grownBehind[grownCount] = lastAsleep[variable];
            grownCount++;
            if (lastAsleep[variable] == NONE) {
                firstAsleep[variable] = first;
            } else {
                sleeperBehind[lastAsleep[variable]] = first;
            }
            lastAsleep[variable] = last;
        }

        /** Takes back what was put to sleep or moved when there were more such than so many, the newest first. */
        private void unlink(int keptSleepers, int keptGrown) {
            for (int i = grownCount - 1; i >= keptGrown; i--) {
                int variable = grownOn[i];
                lastAsleep[variable] = grownBehind[i];
                if (grownBehind[i] == NONE) {
                    firstAsleep[variable] = NONE;
                } else {
                    sleeperBehind[grownBehind[i]] = NONE;
                }
            }
            grownCount = keptGrown;
            sleepers = keptSleepers;
        }

        private int asleepOn(int variable) {
            int value = valueOf(~variable);
            int many = 0;
            if (value < 0) {
                for (int s = firstAsleep[~value]; s != NONE && many < MOST_STEPS; s = sleeperBehind[s]) {
                    many++;
                }
            }
            return many;
        }
    }

    /** MAKING TERMS SAME: the pairs still to go through, the next one last, and the calls that woke. */
    private static final class Pairs {
        // Three to begin with; each STEP takes one away and brings at most three.
        private static final int MOST_PAIRS = MOST_ARGUMENTS + (MOST_ARGUMENTS - 1) * MOST_STEPS;

        private final Terms terms;
        private final Variables variables;
        private final Steps steps;
        private final int[] left = new int[MOST_PAIRS];
        private final int[] right = new int[MOST_PAIRS];
        private int open = 0;
        private final int[] woken = new int[MOST_STEPS];
        private int wokenCount = 0;

        private Pairs(Terms terms, Variables variables, Steps steps) {
            this.terms = terms;
            this.variables = variables;
            this.steps = steps;
        }

        private void clear() {
            open = 0;
            wokenCount = 0;
        }

        private void put(int one, int other) {
            if (open < MOST_PAIRS) {
                left[open] = one;
                right[open] = other;
                open++;
            }
        }

        private void putArguments(int one, int other) {
            for (int k = terms.arityOf(one) - 1; k >= 0; k--) {
                put(terms.argumentOf(one, k), terms.argumentOf(other, k));
            }
        }

        /** False if it fails. For a try nothing wakes, and the caller frees what it bound. */
        private boolean makeSame(boolean trying) {
            for (int i = 0; i <= MOST_STEPS && open > 0; i++) {
                steps.takeOne();
                open--;
                if (!makePairSame(variables.valueOf(left[open]), variables.valueOf(right[open]), trying)) {
                    return false;
                }
            }
            return true;
        }

        private boolean makePairSame(int one, int other, boolean trying) {
            if (one >= 0 && other >= 0) {
                if (terms.letterOf(one) != terms.letterOf(other) || terms.arityOf(one) != terms.arityOf(other)) {
                    return false;
                }
                putArguments(one, other);
            } else if (one < 0 && other < 0) {
                int greater = Math.max(~one, ~other);
                int lesser = Math.min(~one, ~other);
                if (greater != lesser) {
                    variables.bind(greater, ~lesser);
                }
                if (greater != lesser && !trying) {
                    variables.linkBehind(lesser, variables.firstAsleep[greater], variables.lastAsleep[greater]);
                }
            } else {
                int variable = one < 0 ? ~one : ~other;
                variables.bind(variable, one < 0 ? other : one);
                if (!trying) {
                    wake(variable);
                }
            }
            return true;
        }

        private void wake(int variable) {
            int s = variables.firstAsleep[variable];
            while (s != NONE && wokenCount < MOST_STEPS) {
                woken[wokenCount] = variables.sleeper[s];
                wokenCount++;
                s = variables.sleeperBehind[s];
            }
        }
    }

    /** The pairs of terms told to stay different, the oldest first. */
    private static final class Aparts {
        private final Variables variables;
        private final Pairs pairs;
        private final int[] left = new int[MOST_STEPS];
        private final int[] right = new int[MOST_STEPS];
        private final boolean[] waits = new boolean[MOST_STEPS];
        private int made = 0;
        private final int[] settled = new int[MOST_STEPS];
        private int settledCount = 0;

        private Aparts(Variables variables, Pairs pairs) {
            this.variables = variables;
            this.pairs = pairs;
        }

        private void clear() {
            made = 0;
            settledCount = 0;
        }

        private void putNewest(int one, int other) {
            if (made < MOST_STEPS) {
                left[made] = one;
                right[made] = other;
                waits[made] = true;
                made++;
            }
        }

        /** Tests those waiting, from this one on, until one fails. */
        private boolean hold(int from) {
            boolean well = true;
            for (int i = from; i < made && well; i++) {
                if (waits[i]) {
                    int kept = variables.boundCount;
                    pairs.open = 0;
                    pairs.put(left[i], right[i]);
                    boolean same = pairs.makeSame(true);
                    well = !same || variables.boundCount > kept;
                    variables.free(kept);
                    if (!same) {
                        settle(i);
                    }
                }
            }
            return well;
        }

        private void settle(int i) {
            if (settledCount < MOST_STEPS) {
                waits[i] = false;
                settled[settledCount] = i;
                settledCount++;
            }
        }

        private void goBack(int keptMade, int keptSettled) {
            for (int i = keptSettled; i < settledCount; i++) {
                waits[settled[i]] = true;
            }
            settledCount = keptSettled;
            made = keptMade;
        }

        private int waitingNow() {
            int many = 0;
            for (int i = 0; i < made; i++) {
                many += waits[i] ? 1 : 0;
            }
            return many;
        }
    }

    /** A goal to do and those after it; never changed while a choice may come back to it. */
    private static final class ToDo {
        private char sign;
        private int left;
        private int right;
        // How many choices there were when the call that brought the goal in was begun.
        private int barrier;
        private ToDo after;
    }

    /** What a choice goes back to, and the clause that it takes then. */
    private static final class Choice {
        private int call;
        private int clause;
        private ToDo toDo;
        private int toDoUsed;
        private int made;
        private int boundCount;
        private int sleepers;
        private int grownCount;
        private int aparts;
        private int settledCount;
    }

    /** The way from a question to its answers. */
    private static final class Search {
        private final Terms terms;
        private final Variables variables;
        private final Steps steps;
        private final Pairs pairs;
        private final Aparts aparts;
        private Clause[] clauses;
        private int clauseCount = 0;
        // Goals and choices are made once and used again, for every question.
        private final ArrayList<ToDo> toDoRow = new ArrayList<ToDo>();
        private int toDoUsed = 0;
        private ToDo toDo;
        private final ArrayList<Choice> choiceRow = new ArrayList<Choice>();
        private int choiceCount = 0;
        private int answers = 0;
        private Clause taken;
        private int takenBase = 0;
        private int takenBarrier = 0;

        private Search(Terms terms, Variables variables) {
            Steps counter = new Steps();
            Pairs through = new Pairs(terms, variables, counter);
            this.terms = terms;
            this.variables = variables;
            steps = counter;
            pairs = through;
            aparts = new Aparts(variables, through);
        }

        private void begin(Clause question, Clause[] from, int many) {
            clauses = from;
            clauseCount = many;
            variables.clear();
            aparts.clear();
            steps.taken = 0;
            toDoUsed = 0;
            toDo = null;
            choiceCount = 0;
            answers = 0;
            putBodyInFront(question, variables.make(question.variables), 0);
        }

        /** Goes on, or back first, to the next answer; false if there is none. */
        private boolean seek(boolean onward) {
            boolean well = onward;
            for (int round = 0; round < MOST_ROUNDS; round++) {
                if (well && toDo == null) {
                    answers++;
                    return true;
                }
                if (!well && choiceCount == 0) {
                    return false;
                }
                pairs.clear();
                taken = null;
                int newest = aparts.made;
                if (well) {
                    well = doFirst(toDo);
                } else {
                    goBack(choiceRow.get(choiceCount - 1));
                    well = true;
                }
                int kept = variables.boundCount;
                well = well && pairs.makeSame(false);
                // A goal that bound nothing asks for no test but that of the apart which it brought itself.
                well = well && aparts.hold(variables.boundCount > kept ? 0 : newest);
                if (well) {
                    putInFront();
                }
            }
            return false;
        }

        /** Begins the goal; the pairs and tests that it asks for are done by the round. */
        private boolean doFirst(ToDo goal) {
            steps.takeOne();
            toDo = goal.after;
            switch (goal.sign) {
                case CUT:
                    choiceCount = Math.min(choiceCount, goal.barrier);
                    return true;
                case CALL:
                    return beginCall(goal.left);
                case SAME:
                    pairs.put(goal.left, goal.right);
                    return true;
                case APART:
                    aparts.putNewest(goal.left, goal.right);
                    return true;
                case LESS:
                    return isLess(variables.valueOf(goal.left), variables.valueOf(goal.right));
                default:
                    sleepOn(variables.valueOf(goal.left), goal.right);
                    return true;
            }
        }

        private boolean isLess(int one, int other) {
            if (one < 0 || other < 0 || !isDigit(terms.letterOf(one)) || !isDigit(terms.letterOf(other))) {
                throw new UnsupportedOperationException();
            }
            return terms.letterOf(one) < terms.letterOf(other);
        }

        private void sleepOn(int value, int call) {
            if (value < 0) {
                variables.putToSleep(~value, call);
            } else {
                putGoalInFront(CALL, call, call, 0);
            }
        }

        private boolean beginCall(int call) {
            int first = findClause(call, 0);
            if (first == NONE) {
                return false;
            }
            int barrier = choiceCount;
            int second = findClause(call, first + 1);
            if (second != NONE) {
                leaveChoice(call, second);
            }
            takeClause(call, first, barrier);
            return true;
        }

        private int findClause(int call, int from) {
            for (int i = from; i < clauseCount; i++) {
                int head = clauses[i].start;
                if (terms.letterOf(head) == terms.letterOf(call) && terms.arityOf(head) == terms.arityOf(call)) {
                    return i;
                }
            }
            return NONE;
        }

        private void leaveChoice(int call, int clause) {
            if (choiceCount >= choiceRow.size()) {
                choiceRow.add(new Choice());
            }
            Choice choice = choiceRow.get(choiceCount);
            choiceCount++;
            choice.call = call;
            choice.clause = clause;
            choice.toDo = toDo;
            choice.toDoUsed = toDoUsed;
            choice.made = variables.made;
            choice.boundCount = variables.boundCount;
            choice.sleepers = variables.sleepers;
            choice.grownCount = variables.grownCount;
            choice.aparts = aparts.made;
            choice.settledCount = aparts.settledCount;
        }

        /** FAILING: back to the newest choice, and the next of its clauses is begun. */
        private void goBack(Choice choice) {
            toDo = choice.toDo;
            toDoUsed = choice.toDoUsed;
            variables.free(choice.boundCount);
            variables.unlink(choice.sleepers, choice.grownCount);
            variables.made = choice.made;
            aparts.goBack(choice.aparts, choice.settledCount);
            int barrier = choiceCount - 1;
            int clause = choice.clause;
            choice.clause = findClause(choice.call, clause + 1);
            if (choice.clause == NONE) {
                choiceCount = barrier;
            }
            takeClause(choice.call, clause, barrier);
        }

        private void takeClause(int call, int clause, int barrier) {
            taken = clauses[clause];
            takenBase = variables.make(taken.variables);
            takenBarrier = barrier;
            pairs.putArguments(terms.termOf(taken.start, takenBase), call);
        }

        private void putInFront() {
            if (taken != null) {
                putBodyInFront(taken, takenBase, takenBarrier);
            }
            for (int i = pairs.wokenCount - 1; i >= 0; i--) {
                putGoalInFront(CALL, pairs.woken[i], pairs.woken[i], 0);
            }
        }

        private void putBodyInFront(Clause clause, int base, int barrier) {
            for (int i = clause.goals - 1; i >= 0; i--) {
                int left = terms.termOf(clause.left[i], base);
                putGoalInFront(clause.sign[i], left, terms.termOf(clause.right[i], base), barrier);
            }
        }

        private void putGoalInFront(char sign, int left, int right, int barrier) {
            if (toDoUsed >= toDoRow.size()) {
                toDoRow.add(new ToDo());
            }
            ToDo goal = toDoRow.get(toDoUsed);
            toDoUsed++;
            goal.sign = sign;
            goal.left = left;
            goal.right = right;
            goal.barrier = barrier;
            goal.after = toDo;
            toDo = goal;
        }
    }

    /** Writes a value as a text. */
    private static final class Writer {
        // Every level writes at least its letter and its bracket before the next one begins.
        private static final int MOST_LEVELS = MOST_WRITTEN / 2;

        private final Terms terms;
        private final Variables variables;
        private final char[] written = new char[MOST_WRITTEN];
        private int length = 0;

        private Writer(Terms terms, Variables variables) {
            this.terms = terms;
            this.variables = variables;
        }

        private int write(int variable) {
            length = 0;
            writeTerm(~variable, 0);
            return length;
        }

        private void put(char c) {
            if (length < MOST_WRITTEN) {
                written[length] = c;
                length++;
            }
        }

        private void writeTerm(int term, int level) {
            if (level >= MOST_LEVELS || length >= MOST_WRITTEN) {
                return;
            }
            int value = variables.valueOf(term);
            if (value < 0) {
                put('_');
                return;
            }
            put(terms.letterOf(value));
            int arity = terms.arityOf(value);
            for (int k = 0; k < arity; k++) {
                put(k == 0 ? '(' : ',');
                writeTerm(terms.argumentOf(value, k), level + 1);
            }
            if (arity > 0) {
                put(')');
            }
        }
    }
}
