/** The edges of the sentences on numbers (TOKENS). */
public final class EdgesOfNumbersTest {
    public static void main(String[] args) {
        Check check = new Check();
        forms(check);
        followers(check);
        zeroFirst(check);
        missingParts(check);
        dots(check);
        longestOnes(check);
        check.done();
    }

    private static void forms(Check check) {
        check.sentence("A number is as in 7.8.3");
        String[] forms = {
            "0", "1", "9", "10", "90", "0.", "0.0", "0.00", "1.", "1.0", ".0", ".9", ".00", "0e0", "0E0", "1e00", "1e+0", "1e-0", "1E+09", "1.e1", "1.5e1", ".5e1", ".0e-00", "0.e0",
            "0x0", "0X0", "0x00", "0x9", "0xa", "0xf", "0xA", "0xF", "0x0123456789abcdefABCDEF", "0xe1", "0xE", "0x1e", "9007199254740993", "1e999",
        };
        for (String form : forms) {
            TokenScanner x = Check.begun(form);
            check.dueToken(form, x, 2, 0, form.length(), 0, -1, 0, 0, form.length(), 0);
            check.dueUnits(form, form);
            check.dueKinds(form + " a", "21", form + ";", "24", form + "\n1", "22", form + "'a'", "23", form + "/*", "2!" + (form.length() + 2));
        }
        check.dueKinds("1.5.5", "22", "1..", "24", "1...5", "242", "0x1.5", "22", "0xe+1", "242", "1e1.5", "22", "1e1+1", "242", "-1", "42", "+.5", "42");
    }

    private static void followers(Check check) {
        check.sentence("no name or digit may follow it");
        followers(check, "0", ".eExX");
        followers(check, "7", ".eE0123456789");
        followers(check, "7.", "eE0123456789");
        followers(check, "0.", "eE0123456789");
        followers(check, "7.5", "eE0123456789");
        followers(check, ".5", "eE0123456789");
        followers(check, "7e1", "0123456789");
        followers(check, "7.5e-1", "0123456789");
        followers(check, "0x1", "0123456789abcdefABCDEF");
        check.dueKinds("3in", "!1", "3\\u0061", "!1", "3\\u0030", "!1", "0x1\\u0061", "!3", ".5\\u0061", "!2", "a 3b", "1!3", "3 in", "21", "3/**/in", "21");
    }

    private static void followers(Check check, String number, String partOfIt) {
        for (int c = 0; c < 256; c++) {
            if (partOfIt.indexOf(c) >= 0) {
                continue;
            }
            TokenScanner x = Check.fed(number + (char) c);
            boolean refused = Check.isLetter(c) || Check.isDigit(c) || c == '\\';
            check.due("the number of " + number + (char) c, Check.of(x::begin), refused ? Check.ARGUMENT : "2");
            check.due("its place", x.place(), refused ? number.length() : -1);
            if (!refused) {
                check.due("the place behind it", x.token(2), number.length());
            }
        }
    }

    private static void zeroFirst(Check check) {
        check.sentence("0 followed by a digit is refused");
        for (char digit = '0'; digit <= '9'; digit++) {
            check.dueKinds("0" + digit, "!1", "0" + digit + ".5", "!1", "0" + digit + "e1", "!1", "a=0" + digit + ";", "14!3", "00" + digit, "!1");
            check.dueKinds("1" + digit, "2", "0." + digit, "2", "0x" + digit, "2", "0e" + digit, "2", "1e0" + digit, "2", "0 " + digit, "22", "0.0" + digit, "2", ".0" + digit, "2");
        }
        check.sentence("without annex B's additions (so that octal numbers are refused everywhere)");
        check.dueKinds("01", "!1", "07", "!1", "010", "!1", "0777", "!1", "08", "!1", "09.5", "!1", "0o7", "!1", "0O7", "!1", "0b1", "!1", "0B1", "!1", "-01", "4!2", "1 01", "2!3", "'use strict';01", "34!14");
    }

    private static void missingParts(Check check) {
        check.sentence("REFUSED: the text's end where something is missing there: in a number");
        check.dueKinds("0x", "!2", "0X", "!2", "1e", "!2", "1E", "!2", "1e+", "!3", "1e-", "!3", "1.e", "!3", "0e", "!2", ".5e", "!3", "1.5E+", "!5", "a 0x", "1!4");
        check.sentence("REFUSED: the byte that can't stand there: in a number");
        for (char wrong : new char[] {'/', ':', 'a', 'g', 'z', '.', ' ', '\n', '$', '\\', 255}) {
            if (wrong != 'a') {
                check.dueKinds("0x" + wrong, "!2");
            }
            check.dueKinds("1e" + wrong + "1", "!2", "1e+" + wrong + "1", "!3", ".5E-" + wrong, "!4");
        }
        check.dueKinds("0x+1", "!2", "1e+-1", "!3", "1e--1", "!3", "0xG", "!2", "0x`", "!2", "0x@", "!2");
    }

    private static void dots(Check check) {
        check.sentence("a . with a digit behind it begins a number");
        for (int c = 0; c < 256; c++) {
            check.due("a . and the byte " + c, Check.begun("." + (char) c).token(0), Check.isDigit(c) ? 2 : 4);
        }
        check.dueKinds(".", "4", "..", "44", "..5", "42", ".5.", "24", "a.5", "12", "a.b", "141", "a.5.b..c", "1241441", ".e1", "41", ".x", "41");
    }

    private static void longestOnes(Check check) {
        check.sentence("Numbers up to 2,000 bytes");
        for (String number : new String[] {"9".repeat(2000), "." + "0".repeat(1999), "0x" + "F".repeat(1998), "1e" + "0".repeat(1998)}) {
            TokenScanner x = Check.begun(number);
            check.dueToken(number, x, 2, 0, 2000, 0, -1, 0, 0, 2000, 0);
            check.due("its last unit", x.unit(1999), (int) number.charAt(1999));
        }
        check.due("what is missing behind 2,000 bytes", Check.kinds("9".repeat(1999) + "e"), "!2000");
        check.due("a name behind 1,999 bytes", Check.kinds("9".repeat(1999) + "z"), "!1999");
    }
}
