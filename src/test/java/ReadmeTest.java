import java.io.IOException;
import java.nio.file.Files;
import java.nio.file.Path;
import java.util.List;
import java.util.regex.Matcher;
import java.util.regex.Pattern;
import java.util.stream.Stream;

/** README.md as it stands: what its rows tell is what the class answers, and it names every test. */
public final class ReadmeTest {
    private static final Path README = Path.of("README.md");
    private static final Path TESTS = Path.of("src/test/java");

    // A call, and behind it what it answers and why.
    private static final Pattern ROW = Pattern.compile("(?:int \\w+ = )?x\\.(\\w+)\\((.*?)\\); *// ([^:]+): .+");
    private static final Pattern NEW = Pattern.compile("TokenScanner x = new TokenScanner\\(\\);");

    private static final Check check = new Check();

    public static void main(String[] args) throws IOException {
        check.due("README.md stands in the folder that the tests run in", Files.exists(README), true);
        List<String> lines = Files.readAllLines(README);
        rowsAnswerWhatTheyTell(lines);
        everyTestIsNamed(String.join("\n", lines));
        check.done();
    }

    private static void rowsAnswerWhatTheyTell(List<String> lines) {
        TokenScanner x = null;
        boolean inJava = false;
        int rows = 0;
        for (String line : lines) {
            if (line.startsWith("```")) {
                inJava = line.equals("```java");
            } else if (inJava && NEW.matcher(line).matches()) {
                x = new TokenScanner();
            } else if (inJava) {
                rows++;
                rowAnswersWhatItTells(x, line);
            }
        }
        check.due("README.md has rows", rows > 0, true);
    }

    private static void rowAnswersWhatItTells(TokenScanner x, String line) {
        Matcher row = ROW.matcher(line);
        if (!row.matches()) {
            check.due("README.md: " + line, "no row of the form: call; // answer: why", "one");
            return;
        }
        String answer = Check.of(() -> call(x, row.group(1), row.group(2).split(", ")));
        check.due("README.md: " + line, answer, row.group(3).replace("throws ", "throws."));
    }

    private static Object call(TokenScanner x, String name, String[] arguments) {
        switch (name) {
            case "feed": return x.feed(Long.decode(arguments[0].replace("L", "")), Integer.parseInt(arguments[1]));
            case "begin": return x.begin();
            case "next": return x.next();
            case "pattern": return x.pattern();
            case "end": return Check.ofEnd(x);
            case "place": return x.place();
            case "token": return x.token(Integer.parseInt(arguments[0]));
            case "unit": return x.unit(Integer.parseInt(arguments[0]));
            case "name": return x.name();
            case "literal": return x.literal();
            case "text": return x.text(Boolean.parseBoolean(arguments[0]), Integer.parseInt(arguments[1]), Integer.parseInt(arguments[2]));
            default: return "no call of the face";
        }
    }

    private static void everyTestIsNamed(String readme) throws IOException {
        try (Stream<Path> files = Files.list(TESTS)) {
            files.map(file -> file.getFileName().toString()).filter(name -> name.endsWith(".java")).sorted().forEach(name -> {
                String test = name.substring(0, name.length() - ".java".length());
                check.due("README.md names " + test, readme.contains("`" + test + "`"), true);
            });
        }
    }
}
