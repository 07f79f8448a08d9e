import java.util.Arrays;

/**
 * The scanner of a script language (ECMA-262, edition 5.1, clause 7, over bytes):
 * a text is fed, begun, and told token by token.
 */
public final class TokenScanner {
    private static final int MOST_BYTES = 2000;
    private static final int MOST_FED_AT_ONCE = 8;
    private static final int MOST_LITERALS = 1024;
    private static final int MOST_LITERAL_UNITS = 8192;

    private static final int NONE = -1;

    private static final int END = 0;
    private static final int NAME = 1;
    private static final int NUMBER = 2;
    private static final int TEXT = 3;
    private static final int SIGN = 4;
    private static final int PATTERN = 5;

    private static final int LAST_WHAT = 8;
    private static final int DIVIDE = 22;
    private static final int DIVIDE_AND_SET = 52;

    private static final String USE_STRICT = "use strict";

    // Both lists stand in one literal each, since the language's rules join no texts by +.
    private static final String WORDS =
        "break case catch continue debugger default delete do else finally for function if in instanceof new return switch this throw try typeof var void while with null true false class const enum export extends import super implements interface let package private protected public static yield ";

    private static final String SIGNS =
        "|| && | ^ & == != === !== < > <= >= << >> >>> + - * / % = |= ^= &= <<= >>= >>>= += -= *= /= %= ( ) [ ] { } . ; , ? : ! ~ ++ -- ";

    // The document's numbers of SIGNS, in the same order.
    private static final int[] SIGN_NUMBERS = {
        1, 2, 3, 4, 5, 6, 7, 8, 9, 10, 11, 12, 13, 16, 17, 18, 19, 20, 21, 22, 23, 30,
        33, 34, 35, 46, 47, 48, 49, 50, 51, 52, 53,
        60, 61, 62, 63, 64, 65, 66, 67, 68, 69, 70, 71, 72, 73, 74
    };

    private final Source source;
    private final Token current;
    private final Reader reader;
    private final Shelf names;
    private final Shelf literals;
    private boolean hasToken;
    private int refusedAt;

    public TokenScanner() {
        source = new Source();
        current = new Token();
        reader = new Reader(source, current);
        // Each token of a text becomes a name once at most and has no more units than bytes,
        // so that the names of one text never outgrow the text.
        names = new Shelf(MOST_BYTES, MOST_BYTES);
        literals = new Shelf(MOST_LITERALS, MOST_LITERAL_UNITS);
        hasToken = false;
        refusedAt = NONE;
    }

    public int feed(long bytes, int n) throws IllegalArgumentException, IllegalStateException {
        if (n < 1 || n > MOST_FED_AT_ONCE) {
            throw new IllegalArgumentException("1 to 8 bytes are fed at once");
        }
        if (hasToken) {
            throw new IllegalStateException("the text has begun");
        }
        if (!source.hasRoomFor(n)) {
            throw new IllegalStateException("a text has at most 2000 bytes");
        }
        for (int left = n - 1; left >= 0; left--) {
            source.add((int) (bytes >>> (8 * left)) & 255);
        }
        return source.size();
    }

    public int begin() throws IllegalArgumentException, IllegalStateException {
        if (hasToken) {
            throw new IllegalStateException("the text has begun");
        }
        names.clear();
        literals.clear();
        refusedAt = NONE;
        reader.restart();
        return kindUnlessRefused(reader.readToken());
    }

    public int next() throws IllegalArgumentException, IllegalStateException {
        if (!hasToken || current.kind == END) {
            throw new IllegalStateException("there is no token to go on from");
        }
        return kindUnlessRefused(reader.readToken());
    }

    public int pattern() throws IllegalArgumentException, IllegalStateException {
        if (!hasToken || (current.sign != DIVIDE && current.sign != DIVIDE_AND_SET)) {
            throw new IllegalStateException("a pattern begins where / or /= stands");
        }
        return kindUnlessRefused(reader.readPattern());
    }

    public void end() throws IllegalStateException {
        if (!hasToken) {
            throw new IllegalStateException("there is no token");
        }
        useUp();
    }

    public int place() {
        return refusedAt;
    }

    public int token(int what) throws IllegalArgumentException, IllegalStateException {
        if (what < 0 || what > LAST_WHAT) {
            throw new IllegalArgumentException("there is no such what");
        }
        if (!hasToken) {
            throw new IllegalStateException("there is no token");
        }
        switch (what) {
            case 0: return current.kind;
            case 1: return current.first;
            case 2: return current.behind;
            case 3: return oneIf(current.lineEndsBefore);
            case 4: return current.word;
            case 5: return oneIf(current.escaped);
            case 6: return current.sign;
            case 7: return current.size;
            default: return oneIf(current.isUseStrict());
        }
    }

    public int unit(int i) throws IllegalStateException, IndexOutOfBoundsException {
        if (!hasToken) {
            throw new IllegalStateException("there is no token");
        }
        if (i < 0 || i >= current.size) {
            throw new IndexOutOfBoundsException("the token has no such unit");
        }
        return current.units[i];
    }

    public int name() throws IllegalStateException {
        if (!hasToken || !current.canBeName()) {
            throw new IllegalStateException("there is no name, number or text");
        }
        int known = names.find(current.units, current.size);
        return known != NONE ? known : names.add(current.units, current.size);
    }

    public int literal() throws IllegalStateException {
        if (!hasToken || !current.canBeLiteral()) {
            throw new IllegalStateException("there is no number, text or pattern");
        }
        if (!literals.hasRoomFor(current.size)) {
            throw new IllegalStateException("there is no room for a literal more");
        }
        return literals.add(current.units, current.size);
    }

    public int text(boolean literal, int n, int i) throws IndexOutOfBoundsException {
        Shelf shelf = literal ? literals : names;
        if (!shelf.holds(n)) {
            throw new IndexOutOfBoundsException("there is no such literal or name");
        }
        if (i < -1 || i >= shelf.sizeOf(n)) {
            throw new IndexOutOfBoundsException("it has no such unit");
        }
        return i == -1 ? shelf.sizeOf(n) : shelf.unitOf(n, i);
    }

    private int kindUnlessRefused(boolean stands) {
        if (!stands) {
            refusedAt = reader.refusedAt;
            useUp();
            throw new IllegalArgumentException("the text is refused");
        }
        hasToken = true;
        return current.kind;
    }

    private void useUp() {
        hasToken = false;
        source.clear();
    }

    private static int oneIf(boolean holds) {
        return holds ? 1 : 0;
    }

    /** The bytes of the text. */
    private static final class Source {
        private final int[] bytes = new int[MOST_BYTES];
        private int count = 0;

        boolean hasRoomFor(int more) {
            return more <= bytes.length - count;
        }

        void add(int oneByte) {
            if (count < bytes.length) {
                bytes[count] = oneByte;
                count++;
            }
        }

        void clear() {
            count = 0;
        }

        int size() {
            return count;
        }

        /** NONE behind the end, so that a reader may look ahead without asking first. */
        int at(int place) {
            return place >= 0 && place < count ? bytes[place] : NONE;
        }
    }

    /** The token that stands; one object serves all tokens, to keep the room small. */
    private static final class Token {
        private int kind;
        private int first;
        private int behind;
        private boolean lineEndsBefore;
        private int word;
        private boolean escaped;
        private int sign;
        // No token has more units than bytes.
        private final int[] units = new int[MOST_BYTES];
        private int size;

        /** Leaves the END, which is what stands where nothing is read. */
        void clear() {
            kind = END;
            first = 0;
            behind = 0;
            lineEndsBefore = false;
            word = NONE;
            escaped = false;
            sign = 0;
            size = 0;
        }

        void add(int oneUnit) {
            if (size < units.length) {
                units[size] = oneUnit;
                size++;
            }
        }

        boolean canBeName() {
            return kind == NAME || kind == NUMBER || kind == TEXT;
        }

        boolean canBeLiteral() {
            return kind == NUMBER || kind == TEXT || kind == PATTERN;
        }

        boolean isUseStrict() {
            if (kind != TEXT || escaped || size != USE_STRICT.length()) {
                return false;
            }
            for (int k = 0; k < size; k++) {
                if (units[k] != USE_STRICT.charAt(k)) {
                    return false;
                }
            }
            return true;
        }
    }

    /** Rows of units behind one another, numbered as they come. */
    private static final class Shelf {
        private final int[] units;
        // Where each row ends in units, which is where the one behind it starts.
        private final int[] ends;
        private int count;

        Shelf(int mostRows, int mostUnits) {
            units = new int[Math.max(mostUnits, 0)];
            ends = new int[Math.max(mostRows, 0)];
            count = 0;
        }

        void clear() {
            count = 0;
        }

        boolean holds(int n) {
            return n >= 0 && n < count;
        }

        boolean hasRoomFor(int size) {
            return count < ends.length && size <= units.length - startOf(count);
        }

        /** NONE when there is no room. */
        int add(int[] row, int size) {
            if (size < 0 || size > row.length || !hasRoomFor(size)) {
                return NONE;
            }
            int start = startOf(count);
            System.arraycopy(row, 0, units, start, size);
            ends[count] = start + size;
            count++;
            return count - 1;
        }

        int find(int[] row, int size) {
            for (int n = 0; n < count; n++) {
                if (sizeOf(n) == size && startsWith(n, row, size)) {
                    return n;
                }
            }
            return NONE;
        }

        int sizeOf(int n) {
            return holds(n) ? ends[n] - startOf(n) : 0;
        }

        int unitOf(int n, int i) {
            return i >= 0 && i < sizeOf(n) ? units[startOf(n) + i] : NONE;
        }

        private int startOf(int n) {
            return n >= 1 && n <= count ? ends[n - 1] : 0;
        }

        private boolean startsWith(int n, int[] row, int size) {
            int start = startOf(n);
            for (int k = 0; k < size && k < row.length; k++) {
                if (start + k >= units.length || units[start + k] != row[k]) {
                    return false;
                }
            }
            return true;
        }
    }

    /** A list of spellings in one text, each with a blank behind it, since no static row of texts may be. */
    private static final class Spellings {
        private final String list;
        private final int[] starts;

        Spellings(String list) {
            this.list = list;
            int[] found = new int[list.length() + 1];
            int count = 0;
            for (int k = 0; k < list.length(); k++) {
                if (list.charAt(k) == ' ') {
                    count++;
                    found[count] = k + 1;
                }
            }
            starts = Arrays.copyOf(found, count + 1);
        }

        /** Which of them the token's units are. */
        int exactly(Token token) {
            for (int n = 0; n < starts.length - 1; n++) {
                if (isOf(n, token)) {
                    return n;
                }
            }
            return NONE;
        }

        /** Which is the longest of those that stand there. */
        int longestAt(Source source, int place) {
            int longest = NONE;
            for (int n = 0; n < starts.length - 1; n++) {
                if (lengthOf(n) > lengthOf(longest) && standsAt(n, source, place)) {
                    longest = n;
                }
            }
            return longest;
        }

        /** 0 where there is none, so that no loop over its letters then begins. */
        int lengthOf(int n) {
            return n >= 0 && n < starts.length - 1 ? starts[n + 1] - starts[n] - 1 : 0;
        }

        private boolean isOf(int n, Token token) {
            int length = lengthOf(n);
            if (length != token.size) {
                return false;
            }
            for (int k = 0; k < length; k++) {
                if (list.charAt(starts[n] + k) != token.units[k]) {
                    return false;
                }
            }
            return true;
        }

        private boolean standsAt(int n, Source source, int place) {
            int length = lengthOf(n);
            for (int k = 0; k < length; k++) {
                if (list.charAt(starts[n] + k) != source.at(place + k)) {
                    return false;
                }
            }
            return true;
        }
    }

    /** What the language says of single units; NONE belongs to none of these. */
    private static final class Units {
        static boolean isBlank(int c) {
            return c == 9 || c == 11 || c == 12 || c == 32 || c == 160;
        }

        static boolean isLineEnd(int c) {
            return c == 10 || c == 13;
        }

        static boolean isDigit(int c) {
            return c >= '0' && c <= '9';
        }

        static boolean canStartName(int c) {
            return (c >= 'a' && c <= 'z') || (c >= 'A' && c <= 'Z') || c == '$' || c == '_'
                || c == 170 || c == 181 || c == 186
                || (c >= 192 && c <= 255 && c != 215 && c != 247);
        }

        static boolean canStandInName(int c) {
            return canStartName(c) || isDigit(c);
        }

        static int hexValue(int c) {
            if (c >= '0' && c <= '9') {
                return c - '0';
            }
            if (c >= 'a' && c <= 'f') {
                return c - 'a' + 10;
            }
            return c >= 'A' && c <= 'F' ? c - 'A' + 10 : NONE;
        }

        /** What a backslash and c stand for in a text, where c is no digit, x, u or line end. */
        static int escapedBy(int c) {
            switch (c) {
                case 'b': return 8;
                case 't': return 9;
                case 'n': return 10;
                case 'v': return 11;
                case 'f': return 12;
                case 'r': return 13;
                default: return c;
            }
        }
    }

    /**
     * Reads tokens from the source into the one token. What can refuse answers whether the text
     * still stands; when it does not, refusedAt is the place.
     */
    private static final class Reader {
        private final Source source;
        private final Token token;
        private final Spellings words = new Spellings(WORDS);
        private final Spellings signs = new Spellings(SIGNS);
        private int at = 0;
        private int refusedAt = NONE;

        Reader(Source source, Token token) {
            this.source = source;
            this.token = token;
        }

        void restart() {
            at = 0;
            refusedAt = NONE;
        }

        boolean readToken() {
            token.clear();
            if (!skipToToken()) {
                return false;
            }
            token.first = at;
            int c = source.at(at);
            boolean stands = true;
            if (Units.canStartName(c) || c == '\\') {
                stands = readName();
            } else if (Units.isDigit(c) || (c == '.' && Units.isDigit(source.at(at + 1)))) {
                stands = readNumber();
            } else if (c == '"' || c == '\'') {
                stands = readText(c);
            } else if (c != NONE) {
                stands = readSign();
            }
            token.behind = at;
            return stands;
        }

        boolean readPattern() {
            token.kind = PATTERN;
            token.sign = 0;
            // Of a /= the = already belongs to the pattern.
            at = token.first + 1;
            if (!skipPatternBody()) {
                return false;
            }
            at++;
            while (at < source.size() && Units.canStandInName(source.at(at))) {
                at++;
            }
            if (source.at(at) == '\\') {
                return refuse(at);
            }
            takeBytesAsUnits();
            token.behind = at;
            return true;
        }

        private boolean refuse(int place) {
            refusedAt = place;
            return false;
        }

        private boolean skipToToken() {
            // Each round skips a byte or more.
            for (int round = 0; round < source.size(); round++) {
                int c = source.at(at);
                int behindIt = source.at(at + 1);
                if (Units.isBlank(c)) {
                    at++;
                } else if (Units.isLineEnd(c)) {
                    token.lineEndsBefore = true;
                    at++;
                } else if (c == '/' && behindIt == '/') {
                    skipLineComment();
                } else if (c == '/' && behindIt == '*') {
                    if (!skipBlockComment()) {
                        return false;
                    }
                } else {
                    return true;
                }
            }
            return true;
        }

        private void skipLineComment() {
            // The line end stays, since it is no part of the comment and counts as one.
            while (at < source.size() && !Units.isLineEnd(source.at(at))) {
                at++;
            }
        }

        private boolean skipBlockComment() {
            // Both bytes first, so that the * of its start is not taken for that of its end.
            at += 2;
            while (at < source.size()) {
                int c = source.at(at);
                if (c == '*' && source.at(at + 1) == '/') {
                    at += 2;
                    return true;
                }
                if (Units.isLineEnd(c)) {
                    token.lineEndsBefore = true;
                }
                at++;
            }
            return refuse(at);
        }

        private boolean readName() {
            token.kind = NAME;
            for (int part = 0; part < source.size(); part++) {
                int c = source.at(at);
                if (c == '\\') {
                    if (!readNameEscape()) {
                        return false;
                    }
                } else if (Units.canStandInName(c)) {
                    token.add(c);
                    at++;
                } else {
                    break;
                }
            }
            token.word = words.exactly(token);
            return true;
        }

        private boolean readNameEscape() {
            int backslash = at;
            token.escaped = true;
            at++;
            if (source.at(at) != 'u') {
                return refuse(at);
            }
            at++;
            int value = readHex(4);
            if (value == NONE) {
                return false;
            }
            boolean fits = token.size == 0 ? Units.canStartName(value) : Units.canStandInName(value);
            if (!fits) {
                return refuse(backslash);
            }
            token.add(value);
            return true;
        }

        /** NONE when it is refused. */
        private int readHex(int digits) {
            int value = 0;
            for (int k = 0; k < digits; k++) {
                int digit = Units.hexValue(source.at(at));
                if (digit == NONE) {
                    refuse(at);
                    return NONE;
                }
                value = value * 16 + digit;
                at++;
            }
            return value;
        }

        private boolean readNumber() {
            token.kind = NUMBER;
            int second = source.at(at + 1);
            boolean isHex = source.at(at) == '0' && (second == 'x' || second == 'X');
            boolean stands = isHex ? skipHexNumber() : skipDecimalNumber();
            if (!stands) {
                return false;
            }
            int c = source.at(at);
            // A backslash can only begin a name here. A digit is here only behind a lone 0.
            if (Units.canStandInName(c) || c == '\\') {
                return refuse(at);
            }
            takeBytesAsUnits();
            return true;
        }

        private boolean skipHexNumber() {
            at += 2;
            if (Units.hexValue(source.at(at)) == NONE) {
                return refuse(at);
            }
            while (at < source.size() && Units.hexValue(source.at(at)) != NONE) {
                at++;
            }
            return true;
        }

        private boolean skipDecimalNumber() {
            if (source.at(at) == '0') {
                at++;
            } else {
                skipDigits();
            }
            if (source.at(at) == '.') {
                at++;
                skipDigits();
            }
            return skipExponent();
        }

        private boolean skipExponent() {
            int c = source.at(at);
            if (c != 'e' && c != 'E') {
                return true;
            }
            at++;
            int signByte = source.at(at);
            if (signByte == '+' || signByte == '-') {
                at++;
            }
            if (!Units.isDigit(source.at(at))) {
                return refuse(at);
            }
            skipDigits();
            return true;
        }

        private void skipDigits() {
            while (at < source.size() && Units.isDigit(source.at(at))) {
                at++;
            }
        }

        private void takeBytesAsUnits() {
            for (int k = token.first; k < at; k++) {
                token.add(source.at(k));
            }
        }

        private boolean readText(int quote) {
            token.kind = TEXT;
            at++;
            while (at < source.size()) {
                int c = source.at(at);
                if (Units.isLineEnd(c)) {
                    return refuse(at);
                }
                at++;
                if (c == quote) {
                    return true;
                }
                if (c != '\\') {
                    token.add(c);
                } else if (!readTextEscape()) {
                    return false;
                }
            }
            return refuse(at);
        }

        private boolean readTextEscape() {
            token.escaped = true;
            int c = source.at(at);
            if (c == NONE) {
                return refuse(at);
            }
            if (Units.isDigit(c)) {
                return readZeroEscape();
            }
            at++;
            if (Units.isLineEnd(c)) {
                skipSecondOfLineEnd(c);
                return true;
            }
            if (c == 'x' || c == 'u') {
                int value = readHex(c == 'x' ? 2 : 4);
                if (value == NONE) {
                    return false;
                }
                token.add(value);
                return true;
            }
            token.add(Units.escapedBy(c));
            return true;
        }

        private boolean readZeroEscape() {
            if (source.at(at) != '0') {
                return refuse(at);
            }
            at++;
            if (Units.isDigit(source.at(at))) {
                return refuse(at);
            }
            token.add(0);
            return true;
        }

        private void skipSecondOfLineEnd(int firstOfIt) {
            if (firstOfIt == 13 && source.at(at) == 10) {
                at++;
            }
        }

        private boolean readSign() {
            int n = signs.longestAt(source, at);
            if (n < 0 || n >= SIGN_NUMBERS.length) {
                return refuse(at);
            }
            token.kind = SIGN;
            token.sign = SIGN_NUMBERS[n];
            at += signs.lengthOf(n);
            return true;
        }

        private boolean skipPatternBody() {
            boolean inClass = false;
            while (at < source.size()) {
                int c = source.at(at);
                boolean isEscaped = c == '\\';
                if (isEscaped) {
                    at++;
                    c = source.at(at);
                }
                if (c == NONE || Units.isLineEnd(c)) {
                    return refuse(at);
                }
                if (!isEscaped && c == '/' && !inClass) {
                    return true;
                }
                if (!isEscaped && (c == '[' || c == ']')) {
                    inClass = c == '[';
                }
                at++;
            }
            return refuse(at);
        }
    }
}
