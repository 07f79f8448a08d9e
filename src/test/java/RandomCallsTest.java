import java.util.ArrayList;
import java.util.List;

/**
 * Runs of 512 random calls with any arguments, each answer held to a model of the document: the
 * text as a string, the token as the grammar tells it, names and literals as lists.
 */
public final class RandomCallsTest {
    private static final int RUNS = 2000;
    private static final int[] EDGES = {-2, -1, 0, 1, 2, 3, 4, 5, 6, 7, 8, 9, 10, 1023, 1024, 2000, 8192, Integer.MAX_VALUE, Integer.MIN_VALUE};

    private final Check check;
    private final RandomTexts texts;
    private final TokenScanner x = new TokenScanner();
    private final List<String> names = new ArrayList<>();
    private final List<String> literals = new ArrayList<>();
    private String text = "";
    private Grammar.Told token = null;
    private boolean refused = false;
    private int calls = 0;

    private RandomCallsTest(Check check, RandomTexts texts) {
        this.check = check;
        this.texts = texts;
    }

    public static void main(String[] args) {
        Check check = new Check();
        RandomTexts texts = new RandomTexts();
        for (int run = 0; run < RUNS; run++) {
            RandomCallsTest test = new RandomCallsTest(check, texts);
            // Runs of long texts are few, since they leave few calls for anything else.
            if (run % 20 == 0) {
                test.feedLongText();
            }
            while (test.calls < 500) {
                test.oneCall();
            }
        }
        check.done();
    }

    private void due(String call, String got, Object want) {
        calls++;
        check.due(call + " in " + text, got, want);
    }

    private void feedLongText() {
        String piece = "'" + "z".repeat(600 + texts.below(1300)) + "'";
        for (int at = 0; at < piece.length(); at += 8) {
            feed(piece.substring(at, Math.min(at + 8, piece.length())));
        }
    }

    private void oneCall() {
        int which = texts.below(16);
        if (which < 3) {
            feedAny();
        } else if (which == 3) {
            begin();
        } else if (which < 7) {
            next();
        } else if (which == 7) {
            pattern();
        } else if (which == 8) {
            endText();
        } else {
            ask(which);
        }
    }

    private void feedAny() {
        if (texts.below(8) == 0) {
            int n = EDGES[texts.below(EDGES.length)];
            long bytes = texts.any();
            StringBuilder piece = new StringBuilder();
            for (int left = Math.min(n, 8); left > 0; left--) {
                piece.append((char) (bytes >>> 8 * (left - 1) & 255));
            }
            feed(bytes, n, piece.toString());
        } else if (token == null) {
            String more = texts.text();
            for (int at = 0; at < more.length(); at += 8) {
                feed(more.substring(at, Math.min(at + 8, more.length())));
            }
        } else {
            feed("a");
        }
    }

    private void feed(String piece) {
        // What stands above the lowest bytes must not matter.
        long bytes = texts.any();
        for (char c : piece.toCharArray()) {
            bytes = bytes << 8 | c;
        }
        feed(bytes, piece.length(), piece);
    }

    private void feed(long bytes, int n, String piece) {
        String got = Check.of(() -> x.feed(bytes, n));
        if (n < 1 || n > 8) {
            due("feed", got, Check.ARGUMENT);
        } else if (token != null || text.length() + n > 2000) {
            due("feed", got, Check.STATE);
        } else {
            text += piece;
            due("feed", got, text.length());
        }
    }

    private void begin() {
        String got = Check.of(x::begin);
        if (token != null) {
            due("begin", got, Check.STATE);
        } else {
            names.clear();
            literals.clear();
            refused = false;
            move("begin", got, Grammar.tokenBehind(text, 0));
        }
    }

    private void next() {
        String got = Check.of(x::next);
        if (token == null || token.kind() == 0) {
            due("next", got, Check.STATE);
        } else {
            move("next", got, Grammar.tokenBehind(text, token.behind()));
        }
    }

    private void pattern() {
        String got = Check.of(x::pattern);
        if (token == null || token.sign() != 22 && token.sign() != 52) {
            due("pattern", got, Check.STATE);
        } else {
            move("pattern", got, Grammar.patternAt(text, token));
        }
    }

    private void move(String call, String got, Grammar.Told told) {
        due(call, got, told == null ? Check.ARGUMENT : told.kind());
        token = told;
        if (told == null) {
            refused = true;
            due("place", "" + (x.place() >= 0 && x.place() <= text.length()), true);
            text = "";
        }
    }

    private void endText() {
        due("end", Check.ofEnd(x), token == null ? Check.STATE : "ends");
        if (token != null) {
            token = null;
            text = "";
        }
    }

    private void ask(int which) {
        int a = EDGES[texts.below(EDGES.length)];
        int b = EDGES[texts.below(EDGES.length)];
        switch (which) {
            case 9:
            case 10:
                due("token " + a, Check.of(() -> x.token(a)), a < 0 || a > 8 ? Check.ARGUMENT : token == null ? Check.STATE : token.what(a));
                break;
            case 11:
                due("unit " + a, Check.of(() -> x.unit(a)), token == null ? Check.STATE : unitOf(token.units(), a));
                break;
            case 12:
                due("name", Check.of(x::name), nameDue());
                break;
            case 13:
                due("literal", Check.of(x::literal), literalDue());
                break;
            case 14:
                due("place", "" + (x.place() >= 0), refused);
                break;
            default:
                boolean literal = texts.below(2) == 0;
                List<String> kept = literal ? literals : names;
                int n = kept.isEmpty() || texts.below(3) == 0 ? a : texts.below(kept.size());
                due("text", Check.of(() -> x.text(literal, n, b)), textDue(kept, n, b));
        }
    }

    private static String unitOf(String units, int i) {
        return i < 0 || i >= units.length() ? Check.INDEX : "" + (int) units.charAt(i);
    }

    private String nameDue() {
        if (token == null || token.kind() < 1 || token.kind() > 3) {
            return Check.STATE;
        }
        if (!names.contains(token.units())) {
            names.add(token.units());
        }
        return "" + names.indexOf(token.units());
    }

    private String literalDue() {
        if (token == null || token.kind() != 2 && token.kind() != 3 && token.kind() != 5) {
            return Check.STATE;
        }
        int units = literals.stream().mapToInt(String::length).sum();
        if (literals.size() == 1024 || units + token.units().length() > 8192) {
            return Check.STATE;
        }
        literals.add(token.units());
        return "" + (literals.size() - 1);
    }

    private static String textDue(List<String> kept, int n, int i) {
        if (n < 0 || n >= kept.size()) {
            return Check.INDEX;
        }
        return i == -1 ? "" + kept.get(n).length() : unitOf(kept.get(n), i);
    }
}
