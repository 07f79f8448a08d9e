/** Promise 2: feed takes 1 to 8 bytes, the highest first, while there is no token, up to 2,000. */
public final class Promise02FeedTest {
    public static void main(String[] args) {
        Check check = new Check();
        order(check);
        wrongCounts(check);
        states(check);
        limit(check);
        check.done();
    }

    private static void order(Check check) {
        TokenScanner x = new TokenScanner();
        check.due("feed 8", x.feed(0x6162636465666768L, 8), 8);
        check.due("feed the lowest 2 of 8", x.feed(0x5A5A5A5A5A5A696AL, 2), 10);
        check.due("feed the lowest 1 of a negative", x.feed(-256L + 'k', 1), 11);
        check.due("feed bytes above 127", x.feed(0xE0FFL, 2), 13);
        x.begin();
        check.due("the units in order", Check.units(x), "abcdefghijk\u00e0\u00ff");
        TokenScanner high = new TokenScanner();
        high.feed(0xFFFEFDFCFBFAF9F8L, 8);
        high.begin();
        check.due("8 high bytes", Check.units(high), "\u00ff\u00fe\u00fd\u00fc\u00fb\u00fa\u00f9\u00f8");
    }

    private static void wrongCounts(Check check) {
        TokenScanner x = new TokenScanner();
        for (int n : new int[] {0, -1, 9, 10, Integer.MAX_VALUE, Integer.MIN_VALUE}) {
            check.due("feed n " + n, Check.of(() -> x.feed(65, n)), Check.ARGUMENT);
        }
        check.due("feed after wrong ones", x.feed(65, 1), 1);
        x.begin();
        check.due("a wrong n with a token", Check.of(() -> x.feed(65, 0)), Check.ARGUMENT);
    }

    private static void states(Check check) {
        TokenScanner x = Check.begun("a b");
        check.due("feed with a token", Check.of(() -> x.feed(65, 1)), Check.STATE);
        x.next();
        x.next();
        check.due("feed at the END", Check.of(() -> x.feed(65, 1)), Check.STATE);
        x.end();
        check.due("feed when it is ended", x.feed(0x2323, 2), 2);
        check.due("begin", Check.of(x::begin), Check.ARGUMENT);
        check.due("feed when it is refused", x.feed(65, 1), 1);
    }

    private static void limit(Check check) {
        TokenScanner x = Check.fed(" ".repeat(1992));
        check.due("7 more", x.feed(0x20202020202020L, 7), 1999);
        check.due("2 over", Check.of(() -> x.feed(0x2020, 2)), Check.STATE);
        check.due("the last", x.feed('z', 1), 2000);
        check.due("1 over", Check.of(() -> x.feed(65, 1)), Check.STATE);
        check.due("a wrong n when it is full", Check.of(() -> x.feed(65, 9)), Check.ARGUMENT);
        check.due("begin", x.begin(), 1);
        check.due("its place", x.token(1), 1999);
        check.due("the place behind it", x.token(2), 2000);
        check.due("END", x.next(), 0);
        x.end();
        Check.feed(x, "x".repeat(2000));
        check.due("2,000 once more", x.begin(), 1);
        check.due("units", x.token(7), 2000);
    }
}
