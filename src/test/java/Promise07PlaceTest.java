/** Promise 7: place tells where the latest begun text was refused. */
public final class Promise07PlaceTest {
    public static void main(String[] args) {
        Check check = new Check();
        TokenScanner x = new TokenScanner();
        check.due("there was none", x.place(), -1);
        Check.feed(x, "ab #");
        check.due("it was not begun", x.place(), -1);
        x.begin();
        check.due("not so far", x.place(), -1);
        check.due("next", Check.of(x::next), Check.ARGUMENT);
        check.due("by next", x.place(), 3);
        check.due("next", Check.of(x::next), Check.STATE);
        check.due("it stays with wrong calls", x.place(), 3);
        Check.feed(x, "#");
        check.due("it stays while one is fed", x.place(), 3);
        check.due("begin", Check.of(x::begin), Check.ARGUMENT);
        check.due("by begin, at the start", x.place(), 0);
        Check.feed(x, "/a\n");
        x.begin();
        check.due("the next one is not, so far", x.place(), -1);
        check.due("pattern", Check.of(x::pattern), Check.ARGUMENT);
        check.due("by pattern", x.place(), 2);
        x.begin();
        x.end();
        check.due("the empty one was not", x.place(), -1);
        Check.feed(x, "'" + "a".repeat(1999));
        check.due("begin", Check.of(x::begin), Check.ARGUMENT);
        check.due("the end of the longest", x.place(), 2000);
        check.done();
    }
}
