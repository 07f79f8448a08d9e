/**
 * Runs of 512 random calls with any arguments: nothing but the document's exceptions ever reaches
 * the caller, and whether there is a text and a token follows from the calls alone.
 */
public final class RandomCallsTest {
    private static final int RUNS = 2000;
    private static final int[] EDGES = {-2, -1, 0, 1, 2, 7, 8, 9, 10, 1023, 1024, 2000, 8192, Integer.MAX_VALUE, Integer.MIN_VALUE};

    private final Check check;
    private final RandomTexts texts;
    private final TokenScanner x = new TokenScanner();
    private int bytes = 0;
    private int kind = -1;

    private RandomCallsTest(Check check, RandomTexts texts) {
        this.check = check;
        this.texts = texts;
    }

    public static void main(String[] args) {
        Check check = new Check();
        RandomTexts texts = new RandomTexts();
        for (int run = 0; run < RUNS; run++) {
            RandomCallsTest test = new RandomCallsTest(check, texts);
            for (int call = 0; call < 512; call++) {
                test.oneCall();
            }
        }
        check.done();
    }

    private void oneCall() {
        int which = texts.below(16);
        if (which < 3) {
            feed();
        } else if (which == 3) {
            move("begin", Check.of(x::begin), kind < 0);
        } else if (which < 9) {
            move("next", Check.of(x::next), kind > 0);
        } else if (which == 9) {
            boolean slash = kind == 4 && (x.token(6) == 22 || x.token(6) == 52);
            move("pattern", Check.of(x::pattern), slash);
        } else if (which == 10 && texts.below(20) == 0) {
            endText();
        } else {
            ask(which);
        }
    }

    private void feed() {
        int n = texts.below(10) == 0 ? EDGES[texts.below(EDGES.length)] : 1 + texts.below(8);
        long piece = texts.below(8) == 0 ? texts.any() : piece(texts.text());
        String got = Check.of(() -> x.feed(piece, n));
        if (n < 1 || n > 8) {
            check.due("feed", got, Check.ARGUMENT);
        } else if (kind >= 0 || bytes + n > 2000) {
            check.due("feed", got, Check.STATE);
        } else {
            bytes += n;
            check.due("feed", got, bytes);
        }
    }

    private static long piece(String text) {
        long piece = 0x2020202020202020L;
        for (int k = 0; k < text.length() && k < 8; k++) {
            piece = piece << 8 | text.charAt(k);
        }
        return piece;
    }

    private void move(String call, String got, boolean may) {
        if (!may) {
            check.due(call, got, Check.STATE);
        } else if (got.equals(Check.ARGUMENT)) {
            check.due(call + " refused within the text", x.place() >= 0 && x.place() <= bytes, true);
            useUp();
        } else {
            kind = Integer.parseInt(got);
            check.due("token 0", x.token(0), kind);
            check.due("its places", x.token(1) <= x.token(2) && x.token(2) <= bytes, true);
            check.due("place", x.place(), -1);
        }
    }

    private void endText() {
        check.due("end", Check.ofEnd(x), kind < 0 ? Check.STATE : "ends");
        if (kind >= 0) {
            useUp();
        }
    }

    private void useUp() {
        bytes = 0;
        kind = -1;
    }

    private void ask(int which) {
        int a = EDGES[texts.below(EDGES.length)];
        int b = EDGES[texts.below(EDGES.length)];
        switch (which) {
            case 11:
                check.due("token " + a, thrown(Check.of(() -> x.token(a))), a < 0 || a > 8 ? Check.ARGUMENT : kind < 0 ? Check.STATE : "");
                break;
            case 12:
                check.due("unit " + a, thrown(Check.of(() -> x.unit(a))), kind < 0 ? Check.STATE : a < 0 || a >= x.token(7) ? Check.INDEX : "");
                break;
            case 13:
                check.due("name", thrown(Check.of(x::name)), kind >= 1 && kind <= 3 ? "" : Check.STATE);
                break;
            case 14:
                String got = thrown(Check.of(x::literal));
                check.due("literal", got, kind == 2 || kind == 3 || kind == 5 ? "" : Check.STATE);
                break;
            default:
                String answer = Check.of(() -> x.text(texts.below(2) == 0, a, b));
                check.due("text", !answer.startsWith("throws.") || answer.equals(Check.INDEX), true);
        }
    }

    private static String thrown(String answer) {
        return answer.startsWith("throws.") ? answer : "";
    }
}
