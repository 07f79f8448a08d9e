import java.util.concurrent.Callable;

/** What the tests share: texts fed as strings of characters 0 to 255, answers told as strings. */
final class Check {
    static final String STATE = "throws.IllegalStateException";
    static final String ARGUMENT = "throws.IllegalArgumentException";
    static final String INDEX = "throws.IndexOutOfBoundsException";

    private static final int MOST_TOLD = 40;

    private int wrong = 0;
    private int asked = 0;
    private String sentence = "";

    /** The words of the document that the answers from here on are held to. */
    void sentence(String words) {
        sentence = "[" + words + "] ";
    }

    void due(String what, Object got, Object want) {
        asked++;
        if (!String.valueOf(want).equals(String.valueOf(got))) {
            wrong++;
            tell(sentence + shown(what) + " answered " + shown(got) + ", due is " + shown(want));
        }
    }

    private void tell(String what) {
        if (wrong <= MOST_TOLD) {
            System.out.println(what);
        }
    }

    /** Texts, each with its kinds behind it. */
    void dueKinds(String... pairs) {
        for (int k = 0; k + 1 < pairs.length; k += 2) {
            due("kinds of " + pairs[k], kinds(pairs[k]), pairs[k + 1]);
        }
    }

    /** Texts, each with its kinds behind it where for each / and /= a pattern is asked for. */
    void dueKindsWithPatterns(String... pairs) {
        for (int k = 0; k + 1 < pairs.length; k += 2) {
            due("kinds with patterns of " + pairs[k], kindsWithPatterns(pairs[k]), pairs[k + 1]);
        }
    }

    /** Texts, each with the units of its first token behind it. */
    void dueUnits(String... pairs) {
        for (int k = 0; k + 1 < pairs.length; k += 2) {
            String text = pairs[k];
            due("units of " + text, of(() -> units(begun(text))), pairs[k + 1]);
        }
    }

    /** All that token tells of the token that stands, in the order of what. */
    void dueToken(String of, TokenScanner x, int... due) {
        for (int what = 0; what < due.length; what++) {
            int asked = what;
            due("token " + what + " of " + of, of(() -> x.token(asked)), due[what]);
        }
    }

    /** Control bytes told by their number, so that a terminal shows what is wrong. */
    static String shown(Object answer) {
        StringBuilder shown = new StringBuilder();
        for (char c : String.valueOf(answer).toCharArray()) {
            if (c < 32 || c > 126) {
                shown.append('<').append((int) c).append('>');
            } else {
                shown.append(c);
            }
        }
        return shown.toString();
    }

    void done() {
        System.out.println(asked + " answers, " + wrong + " not as due");
        if (wrong != 0) {
            System.exit(1);
        }
    }

    /** The answer of a call, or the very class that it throws. */
    static String of(Callable<?> call) {
        try {
            return String.valueOf(call.call());
        } catch (Exception e) {
            return "throws." + e.getClass().getSimpleName();
        }
    }

    static String ofEnd(TokenScanner x) {
        return of(() -> {
            x.end();
            return "ends";
        });
    }

    static void feed(TokenScanner x, String text) {
        for (int from = 0; from < text.length(); from += 8) {
            int n = Math.min(8, text.length() - from);
            long bytes = 0;
            for (int k = 0; k < n; k++) {
                bytes = bytes << 8 | text.charAt(from + k);
            }
            x.feed(bytes, n);
        }
    }

    static TokenScanner fed(String text) {
        TokenScanner x = new TokenScanner();
        feed(x, text);
        return x;
    }

    static TokenScanner begun(String text) {
        TokenScanner x = fed(text);
        x.begin();
        return x;
    }

    static boolean isLetter(int c) {
        return c >= 'A' && c <= 'Z' || c >= 'a' && c <= 'z' || c == '$' || c == '_' || c == 170 || c == 181 || c == 186
            || c >= 192 && c <= 214 || c >= 216 && c <= 246 || c >= 248 && c <= 255;
    }

    static boolean isDigit(int c) {
        return c >= '0' && c <= '9';
    }

    static boolean isLineEnd(int c) {
        return c == 10 || c == 13;
    }

    /** The escape uXXXX of a unit. */
    static String escape(int unit) {
        return String.format("\\u%04x", unit);
    }

    /** The kinds of all tokens, and ! and the place if it is refused; each / and /= as a sign. */
    static String kinds(String text) {
        return kinds(text, false);
    }

    /** As kinds, but for each / and /= a pattern is asked for. */
    static String kindsWithPatterns(String text) {
        return kinds(text, true);
    }

    private static String kinds(String text, boolean patterns) {
        TokenScanner x = fed(text);
        StringBuilder kinds = new StringBuilder();
        try {
            int kind = x.begin();
            while (kind != 0) {
                if (patterns && (x.token(6) == 22 || x.token(6) == 52)) {
                    kind = x.pattern();
                }
                kinds.append(kind);
                kind = x.next();
            }
        } catch (IllegalArgumentException e) {
            kinds.append('!').append(x.place());
        }
        return kinds.toString();
    }

    /** The units of the token that stands. */
    static String units(TokenScanner x) {
        StringBuilder units = new StringBuilder();
        int size = x.token(7);
        for (int i = 0; i < size; i++) {
            units.append((char) x.unit(i));
        }
        return units.toString();
    }

    /** The units of a literal or name. */
    static String kept(TokenScanner x, boolean literal, int n) {
        StringBuilder units = new StringBuilder();
        int size = x.text(literal, n, -1);
        for (int i = 0; i < size; i++) {
            units.append((char) x.text(literal, n, i));
        }
        return units.toString();
    }
}
