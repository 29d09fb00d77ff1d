/** The edges of section 6: tokens, bounds, error codes and positions. A ^ marks the position that is due. */
public final class EdgeTextTest {
    private static final String HEAD = "toeplitz 3 prime 5";

    public static void main(String[] args) {
        blanks();
        startsNoToken();
        runs();
        longWords();
        longNumbers();
        words();
        cuts();
        sizes();
        primes();
        diagonals();
        ranges();
        values();
        rows();
        parts();
        signs();
        repeatedDiagonals();
        repeatedRows();
        ninthBand();
        smallestCode();
        firstToken();
        lastPosition();
        Check.finish();
    }

    /** A head and so many bands of one diagonal each, from the lowest one on. */
    static String bands(int count) {
        StringBuilder text = new StringBuilder("toeplitz 7 prime 5");
        for (int k = 0; k < count; k++) {
            text.append(";band ").append(k - 6).append(' ').append(k - 6).append(" 1");
        }
        return text.toString();
    }

    /** "Blanks (byte 32) only separate tokens." */
    private static void blanks() {
        good("  toeplitz   3  prime  5  ;  side  0  -  7  ", "0 0 0 0 0|-7 0 0|0 0 0");
        good("toeplitz3prime5;side0-7", "0 0 0 0 0|-7 0 0|0 0 0");
        for (char beside : new char[] {0, 9, 10, 13, 31, 33, 160}) {
            wrong(1, "toeplitz 3 prime 5^" + beside);
            wrong(1, "toeplitz^" + beside + "3 prime 5");
        }
        wrong(1, "^toe plitz 3 prime 5");
        wrong(1, "toeplitz 3 ^pri me 5");
        wrong(1, HEAD + ";side 0 1 ^2");
    }

    /** Code 1: "a byte that starts no token"; the bytes beside letters, digits, the minus sign and the semicolon. */
    private static void startsNoToken() {
        for (char sign : new char[] {'`', '{', '@', 'A', 'Z', '[', '/', ':', '<', ',', '.', '+', '_', 127, 128, 255}) {
            wrong(1, "^" + sign + "toeplitz 3 prime 5");
            wrong(1, HEAD + "^" + sign);
            wrong(1, HEAD + ";side 0 ^" + sign + "1");
            wrong(1, HEAD + ";^" + sign + "side 0 1");
        }
        good("toeplitz 3 prime 5;side 0 9;side 1 0", "0 0 0 0 0|9 0 0|0 0 0");
    }

    /** "A run of letters ends at the first byte that is not a lower-case letter; a run of digits [...] a digit." */
    private static void runs() {
        good("toeplitz3prime5;diagonal0-5;band1 2-6;probe2-7", "0 0 -5 -6 -6|0 0 0|0 0 -7");
        good("toeplitz 3prime 5;diagonal 0-5", "0 0 -5 0 0|0 0 0|0 0 0");
        wrong(1, "^toeplitzprime 5");
        wrong(1, "^toeplit3z 3 prime 5");
        wrong(1, "^toeplitZ 3 prime 5");
        wrong(1, "toeplitz 3 prime 5^x");
        wrong(2, "toeplitz ^35 prime 5");
        wrong(1, "toeplitz 3 ^5 prime 5");
        wrong(2, HEAD + ";side ^3-7");
    }

    /** "words (1 to 8 lower-case letters)"; code 1: "a word of 9 or more letters" */
    private static void longWords() {
        good("toeplitz 3 prime 5;diagonal 0 1", "0 0 1 0 0|0 0 0|0 0 0");
        wrong(1, "^toeplitzz 3 prime 5");
        wrong(1, "^toeplitzt 3 prime 5");
        wrong(1, "^ttoeplitz 3 prime 5");
        wrong(1, HEAD + ";^diagonall 0 1");
        wrong(1, HEAD + ";^" + "diagonal".repeat(9) + " 0 1");
        wrong(1, HEAD + ";^x 0 1");
        wrong(1, HEAD + ";side 0 ^x");
    }

    /** "numbers (1 to 4 digits)"; code 1: "a number of 5 or more digits" */
    private static void longNumbers() {
        good("toeplitz 0003 prime 0005;diagonal 0002 0050;side 0000 -0999", "0 0 0 0 50|-999 0 0|0 0 0");
        wrong(1, "toeplitz ^00003 prime 5");
        wrong(1, "toeplitz 3 prime ^00005");
        wrong(1, HEAD + ";diagonal ^00001 1");
        wrong(1, HEAD + ";diagonal -^00001 1");
        wrong(1, HEAD + ";diagonal 1 ^00001");
        wrong(1, HEAD + ";band 0 ^00001 1");
        wrong(1, HEAD + ";side ^00000 1");
        wrong(1, HEAD + ";side 0 ^00999");
        wrong(1, HEAD + ";side 0 -^" + "0".repeat(600));
        wrong(2, HEAD + ";side 0 ^9999");
        wrong(1, HEAD + ";side 0 ^99999");
    }

    /** The literals of the grammar; a word that has a letter less, more or another one is code 1. */
    private static void words() {
        String text = "toeplitz 3 prime 5;diagonal 0 1;band 1 2 1;side 0 1;probe 0 1";
        good(text, "0 0 1 1 1|1 0 0|1 0 0");
        for (String word : new String[] {"toeplitz", "prime", "diagonal", "band", "side", "probe"}) {
            int end = word.length() - 1;
            wrong(1, text.replace(word, "^" + word.substring(0, end)));
            wrong(1, text.replace(word, "^" + word.substring(1)));
            wrong(1, text.replace(word, "^" + word + "s"));
            wrong(1, text.replace(word, "^x" + word.substring(1)));
            wrong(1, text.replace(word, "^" + word.substring(0, end) + "x"));
            wrong(1, text.replace(word, "^0"));
            wrong(1, text.replace(word, "^-"));
            wrong(1, text.replace(word, "^;"));
            wrong(1, text.replace(word, word + " ^" + word));
        }
        wrong(1, HEAD + ";^prime 5");
        wrong(1, HEAD + ";^toeplitz 3 prime 5");
        wrong(1, HEAD + "^side 0 1");
        wrong(1, HEAD + ";^;side 0 1");
    }

    /** Code 1: "the end of the text where a line is not complete"; a | marks the ends that are good. */
    private static void cuts() {
        String marked = "toeplitz 3 prime 5|;diagonal -1 -2|;band 0 1 -3|;side 0 -4|;probe 2 5| |";
        String text = marked.replace("|", "");
        int marks = 0;
        for (int length = 0; length <= text.length(); length++) {
            ToeplitzLab lab = new ToeplitzLab();
            Check.put(lab, text);
            int end = length;
            if (length + marks < marked.length() && marked.charAt(length + marks) == '|') {
                marks++;
                Check.same("the first bytes " + length, 3, lab.load(length));
            } else {
                Check.throwing("the first bytes " + length, Check.ARGUMENT, () -> lab.load(end));
                told(lab, "the first bytes " + length, 1, cutAt(text, length));
            }
        }
        Check.same("good ends", 6, marks);
    }

    /** The word that a cut makes too short, or the cut itself. */
    private static int cutAt(String text, int length) {
        int start = length;
        if (Character.isLetter(text.charAt(length))) {
            while (start > 0 && Character.isLetter(text.charAt(start - 1))) {
                start--;
            }
        }
        return start;
    }

    /** "SIZE is 1 to 7" */
    private static void sizes() {
        for (int size = 1; size <= 7; size++) {
            Check.same("size", size, Check.lab("toeplitz " + size + " prime 5").size());
        }
        wrong(2, "toeplitz ^0 prime 5");
        wrong(2, "toeplitz ^8 prime 5");
        wrong(2, "toeplitz ^9999 prime 5");
        wrong(1, "toeplitz ^-1 prime 5");
        wrong(1, "toeplitz ^-0 prime 5");
    }

    /** Code 2: "a PRIME that is none of the primes" */
    private static void primes() {
        int next = 0;
        int[] primes = {2, 3, 5, 7, 11, 13, 17, 19, 23, 29, 31};
        for (int number = 0; number <= 40; number++) {
            if (next < primes.length && primes[next] == number) {
                Check.same("prime", number, Check.lab("toeplitz 1 prime " + number).prime());
                next++;
            } else {
                wrong(2, "toeplitz 1 prime ^" + number);
            }
        }
        wrong(2, "toeplitz 1 prime ^9973");
        wrong(1, "toeplitz 1 prime ^-5");
    }

    /** "DIAGONAL and FROM -(SIZE - 1) to SIZE - 1" */
    private static void diagonals() {
        for (int size = 1; size <= 7; size++) {
            String head = "toeplitz " + size + " prime 5;";
            int last = size - 1;
            ToeplitzLab lab = Check.lab(head + "diagonal " + last + " 4");
            Check.same("the last diagonal", 4, lab.diagonal(last));
            lab = Check.lab(head + "diagonal " + -last + " -4");
            Check.same("the first diagonal", -4, lab.diagonal(-last));
            Check.same("the first band", 6, Check.lab(head + "band " + -last + " " + -last + " 6").diagonal(-last));
            Check.same("the last band", 7, Check.lab(head + "band " + last + " " + last + " 7").diagonal(last));
            wrong(2, head + "diagonal ^" + size + " 1");
            wrong(2, head + "diagonal -^" + size + " 1");
            wrong(2, head + "band ^" + size + " " + size + " 1");
            wrong(2, head + "band -^" + size + " 0 1");
        }
        wrong(2, "toeplitz 1 prime 5;diagonal ^9999 1");
    }

    /** "TO FROM to SIZE - 1"; "A band line tells the same value for all diagonals from FROM to TO." */
    private static void ranges() {
        good(HEAD + ";band 0 0 9", "0 0 9 0 0|0 0 0|0 0 0");
        good(HEAD + ";band -1 1 9", "0 9 9 9 0|0 0 0|0 0 0");
        good(HEAD + ";band -2 2 9", "9 9 9 9 9|0 0 0|0 0 0");
        good(HEAD + ";band -2 -2 9", "9 0 0 0 0|0 0 0|0 0 0");
        good(HEAD + ";band 2 2 9", "0 0 0 0 9|0 0 0|0 0 0");
        wrong(2, HEAD + ";band 0 -^1 9");
        wrong(2, HEAD + ";band 1 ^0 9");
        wrong(2, HEAD + ";band -1 -^2 9");
        wrong(2, HEAD + ";band 2 ^1 9");
        wrong(2, HEAD + ";band -2 ^3 9");
        wrong(2, HEAD + ";band 2 ^3 9");
        wrong(2, HEAD + ";band -2 -^3 9");
    }

    /** "VALUE -50 to 50" */
    private static void values() {
        good(HEAD + ";diagonal 0 50;diagonal 1 -50;diagonal 2 49;diagonal -1 -49", "0 -49 50 -50 49|0 0 0|0 0 0");
        good(HEAD + ";band 0 1 50;band -2 -1 -50", "-50 -50 50 50 0|0 0 0|0 0 0");
        wrong(2, HEAD + ";diagonal 0 ^51");
        wrong(2, HEAD + ";diagonal 0 -^51");
        wrong(2, HEAD + ";band 0 0 ^51");
        wrong(2, HEAD + ";band 0 0 -^51");
        wrong(2, HEAD + ";band 0 0 -^9999");
    }

    /** "ROW 0 to SIZE - 1" */
    private static void rows() {
        for (int size = 1; size <= 7; size++) {
            String head = "toeplitz " + size + " prime 5;";
            int last = size - 1;
            ToeplitzLab lab = Check.lab(head + "side " + last + " 5;probe " + last + " 6");
            Check.same("the last side", 5, lab.side(last));
            Check.same("the last probe", 6, lab.probe(last));
            lab = Check.lab(head + "side 0 7;probe 0 8");
            Check.same("the first side", 7, lab.side(0));
            Check.same("the first probe", 8, lab.probe(0));
            wrong(2, head + "side ^" + size + " 1");
            wrong(2, head + "probe ^" + size + " 1");
            wrong(1, head + "side ^-1 1");
            wrong(1, head + "probe ^-0 1");
        }
    }

    /** "PART -999 to 999" */
    private static void parts() {
        good(HEAD + ";side 0 999;side 1 -999;probe 1 999;probe 2 -999", "0 0 0 0 0|999 -999 0|0 999 -999");
        good(HEAD + ";side 0 998;side 1 -998;probe 1 0;probe 2 1", "0 0 0 0 0|998 -998 0|0 0 1");
        for (String sort : new String[] {"side", "probe"}) {
            wrong(2, HEAD + ";" + sort + " 0 ^1000");
            wrong(2, HEAD + ";" + sort + " 0 -^1000");
            wrong(2, HEAD + ";" + sort + " 2 ^9999");
        }
    }

    /** "A minus sign makes the number behind it negative."; "of a number with a minus sign that of the digits" */
    private static void signs() {
        good(HEAD + ";diagonal - 0 - 0;band -2 -1 -0;side 0 -0;probe 0 -  0", "0 0 0 0 0|0 0 0|0 0 0");
        good(HEAD + ";band - 2 - 1 - 7", "-7 -7 0 0 0|0 0 0|0 0 0");
        wrong(2, HEAD + ";diagonal -  ^3 1");
        wrong(1, HEAD + ";diagonal -^-1 1");
        wrong(1, HEAD + ";diagonal -1 -^-1");
        wrong(1, HEAD + ";diagonal -^x 1");
        wrong(1, HEAD + ";diagonal -^;");
        wrong(1, HEAD + ";side 0 - ^-1");
        wrong(1, HEAD + ";side 0 1^-");
        wrong(1, HEAD + ";band -1 -^;");
        wrong(1, HEAD + "^-");
        wrong(1, HEAD + ";^-side 0 1");
    }

    /** Code 3: "a DIAGONAL that an earlier line told; a TO if an earlier line told one of the diagonals [...]" */
    private static void repeatedDiagonals() {
        for (int k = -6; k <= 6; k++) {
            String head = "toeplitz 7 prime 5;diagonal " + k + " 0;";
            String mark = k < 0 ? "-^" + -k : "^" + k;
            wrong(3, head + "diagonal " + mark + " 0");
            wrong(3, head + "side 0 1;diagonal " + (k == 6 ? -6 : k + 1) + " 1;diagonal " + mark);
            wrong(3, head + "band " + k + " " + mark + " 1");
            wrong(3, head + "band -6 ^6 1");
            wrong(3, "toeplitz 7 prime 5;band -6 6 1;diagonal " + mark + " 1");
            wrong(3, "toeplitz 7 prime 5;band -6 6 1;band " + k + " " + mark + " 1");
        }
        good(HEAD + ";diagonal 0 1;band 1 2 2;band -2 -1 3", "3 3 1 2 2|0 0 0|0 0 0");
        wrong(3, HEAD + ";diagonal 0 1;band 0 ^2 2");
        wrong(3, HEAD + ";diagonal 0 1;band -2 ^0 2");
        wrong(3, HEAD + ";band -1 0 1;band 0 ^1 2");
        wrong(3, HEAD + ";band -1 0 1;band -2 -^1 2");
        wrong(3, HEAD + ";band -1 1 1;band 0 ^0 2");
        wrong(3, HEAD + ";diagonal 0 1;diagonal 1 1;diagonal ^0 1");
        wrong(3, HEAD + ";diagonal 0 1;band 1 1 1;diagonal ^0 1");
        wrong(3, HEAD + ";diagonal 1 1;band 0 0 1;diagonal -1 1;band -2 ^2 1");
    }

    /** Code 3: "a ROW that an earlier line of the same sort has" */
    private static void repeatedRows() {
        for (int row = 0; row < 7; row++) {
            String head = "toeplitz 7 prime 5;side " + row + " 0;probe " + row + " 0";
            Check.same("a row of both sorts", 7, Check.lab(head).size());
            wrong(3, head + ";side ^" + row + " 0");
            wrong(3, head + ";probe ^" + row + " 0");
            int other = (row + 1) % 7;
            wrong(3, head + ";side " + other + " 1;side ^" + row + " 0");
            wrong(3, head + ";probe " + other + " 1;probe ^" + row);
            Check.same("the row beside", 7, Check.lab(head + ";side " + other + " 1;probe " + other + " 1").size());
        }
    }

    /** Code 4: "the first word of a 9th band line" */
    private static void ninthBand() {
        Check.same("7 bands", 7, Check.lab(bands(7)).size());
        Check.same("8 bands", 7, Check.lab(bands(8)).size());
        Check.same("8 bands and others", 7, Check.lab(bands(8) + ";diagonal 2 1;side 0 1;probe 0 1").size());
        wrong(4, bands(8) + ";^band 2 2 1");
        wrong(4, bands(8) + ";diagonal 2 1; ^band 3 3 1");
        wrong(4, bands(8) + ";^band");
        wrong(4, bands(8) + ";^band -6 -6 1");
        wrong(1, bands(8) + ";^bands");
        wrong(1, bands(8) + "^band");
        StringBuilder diagonals = new StringBuilder("toeplitz 7 prime 5");
        for (int k = -6; k <= 6; k++) {
            diagonals.append(";diagonal ").append(k).append(" 1");
        }
        Check.same("13 diagonals are no bands", 7, Check.lab(diagonals.toString()).size());
        String told = ";diagonal 2 1;diagonal 3 1;diagonal 4 1;diagonal 5 1;side 0 1;side 1 1;probe 0 1;probe 1 1";
        String behind = bands(8).replace("prime 5", "prime 5" + told);
        Check.same("8 bands behind 8 other lines", 7, Check.lab(behind).size());
        wrong(4, behind + ";^band 6 6 1");
        ToeplitzLab lab = Check.lab(bands(8));
        Check.same("each text has its own 8", 7, lab.load(Check.put(lab, bands(8))));
    }

    /** "if several errors apply to that token, the smallest code is reported" */
    private static void smallestCode() {
        wrong(1, "toeplitz ^99999 prime 5");
        wrong(1, HEAD + ";diagonal 0 1;diagonal ^00000 1");
        wrong(1, HEAD + ";side 0 1;side ^00000 1");
        wrong(2, HEAD + ";diagonal 1 1;band 1 ^0 1");
        wrong(2, HEAD + ";diagonal 2 1;band 0 ^3 1");
        wrong(3, HEAD + ";diagonal 2 1;band 0 ^2 1");
        wrong(1, bands(8) + " ^band 2 2 1");
    }

    /** "Parsing stops at the first token, from the left, at which an error is found" */
    private static void firstToken() {
        wrong(2, "toeplitz ^0 prime 4;!");
        wrong(2, "toeplitz 1 prime ^4;!");
        wrong(2, HEAD + ";diagonal ^3 51");
        wrong(3, HEAD + ";diagonal 0 1;diagonal ^0 51");
        wrong(3, HEAD + ";diagonal 0 1;band 0 ^0 51");
        wrong(2, HEAD + ";diagonal 0 1;band ^3 0 51");
        wrong(3, HEAD + ";side 0 1;side ^0 1000");
        wrong(2, HEAD + ";side ^3 1000");
        wrong(4, bands(8) + ";^band 9 9 99");
        wrong(2, HEAD + ";side 0 ^1000!");
        wrong(1, HEAD + ";side 0 999^!");
    }

    /** "at the end of the text it is the number of bytes" */
    private static void lastPosition() {
        wrong(1, "^");
        wrong(1, "    ^");
        wrong(1, "toeplitz^");
        wrong(1, "toeplitz 3    ^");
        wrong(1, HEAD + ";^");
        wrong(1, HEAD + ";   ^");
        wrong(1, HEAD + ";band 0 1  ^");
        wrong(1, HEAD + ";diagonal -1 -  ^");
    }

    /** The diagonals, the sides and the probes of a system of three rows. */
    private static void good(String text, String due) {
        ToeplitzLab lab = Check.lab(text);
        Check.same(text, due, Check.row(5, k -> lab.diagonal(k - 2)) + "|" + Check.row(3, lab::side) + "|"
                + Check.row(3, lab::probe));
        told(lab, text, 0, ToeplitzLab.NONE);
    }

    private static void wrong(int code, String marked) {
        int place = marked.indexOf('^');
        String text = marked.substring(0, place) + marked.substring(place + 1);
        ToeplitzLab lab = new ToeplitzLab();
        Edge.fail(lab, text);
        told(lab, marked, code, place);
        Check.same(marked + ": size", 0, lab.size());
    }

    private static void told(ToeplitzLab lab, String what, int code, int place) {
        Check.same(what + ": parseError", code, lab.parseError());
        Check.same(what + ": errorPosition", place, lab.errorPosition());
        Check.same(what + ": buffered", 0, lab.buffered());
    }
}
