import java.io.IOException;
import java.nio.file.Files;
import java.nio.file.Path;
import java.util.ArrayList;
import java.util.List;
import java.util.regex.Matcher;
import java.util.regex.Pattern;

/** What README.md says of the calls' answers is so. It is read where .ci/run stands, at the project's root. */
public final class ReadmeTest {
    private static final Pattern CALL = Pattern.compile("desk\\.(\\w+)\\((.*)\\); +// ('.'|\\w+).*");
    private static final Pattern ROW = Pattern.compile("\\| [^|]+ \\| `([^`]+)` \\| ((?:`[^`]+` ?)+) \\| [^|]+ \\|");
    private static final Pattern QUOTED = Pattern.compile("`([^`]+)`");
    private static final int X = 'X' - 'A';

    public static void main(String[] args) throws IOException {
        Due due = new Due();
        List<String> lines = Files.readAllLines(Path.of("README.md"));
        theCalls(due, lines);
        theQuestions(due, lines);
        due.end();
    }

    private static void theCalls(Due due, List<String> lines) {
        GoalDesk desk = new GoalDesk();
        int told = 0;
        int seen = 0;
        for (String line : lines) {
            told += line.startsWith("desk.") ? 1 : 0;
            Matcher call = CALL.matcher(line);
            if (call.matches()) {
                seen++;
                String[] numbers = call.group(2).split(", ");
                String answer = answer(desk, call.group(1), numbers);
                due.same("README.md: " + line, answer, wanted(call.group(3)));
            }
        }
        due.same("README.md: calls with an answer", String.valueOf(seen), String.valueOf(told));
        due.same("README.md: there are calls", String.valueOf(told > 0), "true");
    }

    private static String wanted(String told) {
        if (told.startsWith("'")) {
            return String.valueOf((int) told.charAt(1));
        }
        return told.endsWith("Exception") ? "throws." + told : told.equals("nothing") ? "0" : told;
    }

    private static String answer(GoalDesk desk, String name, String[] numbers) {
        return Due.answer(() -> {
            switch (name) {
                case "type":
                    return desk.type(number(numbers[0]));
                case "add":
                    return desk.add();
                case "drop":
                    desk.drop((int) number(numbers[0]));
                    return 0;
                case "ask":
                    return desk.ask();
                case "next":
                    return desk.next();
                case "letter":
                    return desk.letter((int) number(numbers[0]), (int) number(numbers[1]));
                case "sleeping":
                    return desk.sleeping((int) number(numbers[0]));
                case "count":
                    return desk.count((int) number(numbers[0]));
                default:
                    throw new AssertionError("README.md has a call of " + name);
            }
        });
    }

    private static long number(String told) {
        return told.equals("'X' - 'A'") ? X : Long.decode(told.replace("L", ""));
    }

    private static void theQuestions(Due due, List<String> lines) {
        String[] clauses = clauses(String.join(" ", lines));
        due.same("README.md: there are clauses", String.valueOf(clauses.length > 0), "true");
        int seen = 0;
        for (String line : lines) {
            Matcher row = ROW.matcher(line);
            if (row.matches()) {
                seen++;
                values(due, clauses, row.group(1), quoted(row.group(2)));
            }
        }
        due.same("README.md: a row for each kind of goal", String.valueOf(seen), "6");
    }

    private static String[] clauses(String all) {
        int from = all.indexOf("With the clauses ");
        int to = all.indexOf("| goal |");
        return from < 0 || to < from ? new String[0] : quoted(all.substring(from, to));
    }

    private static String[] quoted(String told) {
        List<String> all = new ArrayList<>();
        Matcher one = QUOTED.matcher(told);
        while (one.find()) {
            all.add(one.group(1));
        }
        return all.toArray(new String[0]);
    }

    private static void values(Due due, String[] clauses, String question, String[] wanted) {
        GoalDesk desk = new GoalDesk();
        for (String clause : clauses) {
            type(desk, clause);
            desk.add();
        }
        type(desk, question);
        List<String> got = new ArrayList<>();
        String answer = Due.answer(desk::ask);
        while (!answer.startsWith("throws") && got.size() <= wanted.length) {
            got.add(value(desk));
            answer = Due.answer(desk::next);
        }
        due.same("README.md: the values of X for " + question, got.toString(), List.of(wanted).toString());
        due.same("README.md: after the answers to " + question, answer, Bench.NONE);
    }

    private static void type(GoalDesk desk, String text) {
        for (int from = 0; from < text.length(); from += 8) {
            desk.type(Bench.eight(text.substring(from)));
        }
    }

    private static String value(GoalDesk desk) {
        StringBuilder value = new StringBuilder();
        for (int i = 0; i < desk.letter(X, -1); i++) {
            value.append((char) desk.letter(X, i));
        }
        return value.toString();
    }
}
