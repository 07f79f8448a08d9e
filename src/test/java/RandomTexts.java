import java.util.Random;

/** Texts of pieces that are likely to meet an edge, the same ones in every run. */
final class RandomTexts {
    private static final String[] PIECES = {
        "a", "b1", "var", "in", "$", "_", "\u00e9", "\u00d7", "\\u0061", "\\u0030", "\\u00e9", "\\u0161", "\\u00", "\\x41", "\\xg", "\\", "\\0", "\\1", "\\n", "\\u",
        "0", "1", "08", "12", ".", ".5", "e", "e+", "E-1", "x", "0x", "0xF", "1.", "1e3", "g",
        "'", "\"", "''", "\"use strict\"", "'a'", "'", "\"",
        "/", "/=", "//", "/*", "*/", "*", "[", "]", "/a/g", "[/]", "\\/", "/",
        " ", " ", " ", "\t", "\n", "\r", "\r\n", "\\\n", "\\\r\n", "\u00a0",
        "=", "==", "===", "!", "!=", "<", ">", ">>", ">>>", "+", "-", "++", "&", "|", "^", "%", "(", ")", "{", "}", ";", ",", "?", ":", "~", "#", "@",
    };

    private final Random random = new Random(20261115);

    int below(int bound) {
        return random.nextInt(bound);
    }

    long any() {
        return random.nextLong();
    }

    String text() {
        StringBuilder text = new StringBuilder();
        int pieces = random.nextInt(14);
        for (int k = 0; k < pieces; k++) {
            if (random.nextInt(25) == 0) {
                text.append((char) random.nextInt(256));
            } else {
                text.append(PIECES[random.nextInt(PIECES.length)]);
            }
        }
        return text.toString();
    }
}
