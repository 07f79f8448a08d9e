/** The edges of the sentences on blanks, line ends and comments (TOKENS). */
public final class EdgesOfBlanksAndCommentsTest {
    public static void main(String[] args) {
        Check check = new Check();
        blanks(check);
        lineEnds(check);
        oneLineEnd(check);
        lineComments(check);
        blockComments(check);
        commentsSeparate(check);
        longestOnes(check);
        check.done();
    }

    private static void blanks(Check check) {
        check.sentence("Blanks are 9, 11, 12, 32, 160");
        for (int c = 0; c < 256; c++) {
            boolean blank = c == 9 || c == 11 || c == 12 || c == 32 || c == 160;
            String text = "(" + (char) c + ")";
            check.due("nothing stands between in " + text, Check.kinds(text).equals("44"), blank || Check.isLineEnd(c));
            if (blank) {
                TokenScanner x = Check.begun(text);
                x.next();
                check.due("a blank ends no line, " + c, x.token(3), 0);
                check.due("a blank before all, " + c, Check.begun((char) c + "a").token(1), 1);
                check.due("a blank behind all, " + c, Check.kinds("a" + (char) c), "1");
            }
        }
    }

    private static void lineEnds(Check check) {
        check.sentence("line ends 10 and 13");
        for (int c = 0; c < 256; c++) {
            String text = "(" + (char) c + "\n)";
            if (Check.kinds(text).equals("44")) {
                TokenScanner x = Check.begun("(" + (char) c + ")");
                x.next();
                check.due("a line ends at " + c, x.token(3), Check.isLineEnd(c) ? 1 : 0);
            }
            boolean inText = c != '\'' && c != '\\' && !Check.isLineEnd(c);
            check.due("a text with the byte " + c, Check.kinds("'" + (char) c + "'").equals("3"), inText);
        }
        check.dueKinds("\n", "", "\r", "", "\r\n", "", "\n\r", "", "\n\n\r\r", "");
    }

    private static void oneLineEnd(Check check) {
        check.sentence("13 10 is one");
        check.dueUnits("'a\\\r\nb'", "ab", "'\\\r\n'", "", "'\\\r\n\\\r\n'", "", "'\\\n\\\r'", "");
        check.dueKinds("'\\\r\n\n'", "!4", "'\\\n\r'", "!3", "'\\\r\r'", "!3", "'\\\n\n'", "!3");
    }

    private static void lineComments(Check check) {
        check.sentence("Comments as in 7.4: // up to the line's end");
        for (int c = 0; c < 256; c++) {
            check.due("a line's comment with " + c, Check.kinds("//" + (char) c + "a"), Check.isLineEnd(c) ? "1" : "");
        }
        check.dueKinds("//", "", "a//", "1", "//\n", "", "///", "", "//*", "", "// /*\na", "1", "//*/\na", "1", "/ /", "44");
        TokenScanner x = Check.begun("a//b\nc//d");
        x.next();
        check.due("the line end behind it counts", x.token(3), 1);
        x.next();
        check.due("none behind the last", x.token(3), 0);
        check.due("the END is behind it", x.token(1), 9);
    }

    private static void blockComments(Check check) {
        check.sentence("Comments as in 7.4: /* up to the first */");
        for (int c = 0; c < 256; c++) {
            String text = "/*" + (char) c + "*/a";
            check.due("a comment with " + c, Check.kinds(text), "1");
            check.due("a line ends in it, " + c, Check.begun(text).token(3), Check.isLineEnd(c) ? 1 : 0);
        }
        check.dueKinds("/**/", "", "/***/", "", "/****/", "", "/*/*/", "", "/**//**/", "", "/*//*/a", "1", "/*/**/*/", "44", "*/", "44", "/* */ */", "44");
        check.sentence("REFUSED: the text's end where something is missing there: a comment's end");
        check.dueKinds("/*", "!2", "/**", "!3", "/*/", "!3", "/* *", "!4", "/* * /", "!6", "/*\n", "!3", "a /*b", "1!5", "/**/ /*", "!7");
    }

    private static void commentsSeparate(Check check) {
        check.sentence("Comments as in 7.4: they stand between tokens");
        check.dueKinds("a/**/b", "11", "1/**/2", "22", "0/**/1", "22", "1/**/a", "21", "+/**/+", "44", "</**/=", "44", "'a/**/b'", "3", "1//\n2", "22", "'//'", "3", "'/*'", "3");
        TokenScanner x = Check.begun("1/* */2/*\r*/3/**/\n4");
        int[] due = {0, 0, 1, 1};
        for (int k = 0; k < due.length; k++) {
            check.due("a line ends before " + (k + 1), x.token(3), due[k]);
            x.next();
        }
        check.dueKindsWithPatterns("//a/", "", "/**/a/", "1!6", "/**//a/", "5");
    }

    private static void longestOnes(Check check) {
        check.sentence("Comments as in 7.4: a text of nothing else, up to 2,000 bytes");
        check.due("blanks", Check.begun(" ".repeat(2000)).token(1), 2000);
        check.due("line ends", Check.begun("\n".repeat(2000)).token(3), 1);
        check.due("a line's comment", Check.begun("//" + "a".repeat(1998)).token(1), 2000);
        check.due("a comment", Check.begun("/*" + "*".repeat(1996) + "*/").token(1), 2000);
        check.due("a comment without its end", Check.kinds("/*" + "*".repeat(1998)), "!2000");
        check.due("a comment with half its end", Check.kinds("/*" + "a".repeat(1997) + "*"), "!2000");
        check.due("500 comments", Check.begun("/**/".repeat(500)).token(1), 2000);
    }
}
