/** Promises 1 to 6: a new object, the input buffer, load and its errors. */
public final class InputTest {
    public static void main(String[] args) {
        newObject();
        buffer();
        loading();
        positions();
        lexicalErrors();
        grammarErrors();
        boundErrors();
        repeatErrors();
        bandErrors();
        latestError();
        Check.finish();
    }

    private static void newObject() {
        ToeplitzLab lab = new ToeplitzLab();
        Check.same("buffered", 0, lab.buffered());
        Check.same("size", 0, lab.size());
        Check.same("prime", 0, lab.prime());
        Check.same("parseError", 0, lab.parseError());
        Check.same("errorPosition", ToeplitzLab.NONE, lab.errorPosition());
        Check.same("entries", 0, lab.entries());
        Check.same("undoable", 0, lab.undoable());
        Check.throwing("rank", Check.STATE, lab::rank);
        Check.throwing("undo", Check.STATE, lab::undo);
        Check.throwing("restore(0)", Check.STATE, () -> lab.restore(0));
        Check.same("NONE", -1, ToeplitzLab.NONE);
    }

    private static void buffer() {
        ToeplitzLab lab = new ToeplitzLab();
        for (int k = 1; k <= 35; k++) {
            Check.same("append " + k, 20 * k, lab.append(0x20202020, 0x20202020, 0x20202020, 0x20202020, 0x20202020));
        }
        Check.same("append to a full buffer", ToeplitzLab.NONE, lab.append(0, 0, 0, 0, 0));
        Check.same("buffered", 700, lab.buffered());
        Check.throwing("load(701)", Check.INDEX, () -> lab.load(701));
        Check.same("buffered", 700, lab.buffered());
        Check.throwing("load(700)", Check.ARGUMENT, () -> lab.load(700));
        Check.same("error at the end", 700, lab.errorPosition());
        Check.same("buffered", 0, lab.buffered());
        // The order of the bytes: "toep" "litz" " 2 p" "rime" " 31;" and bytes with the highest bit set.
        Check.same("append", 20, lab.append(0x746f6570, 0x6c69747a, 0x20322070, 0x72696d65, 0x2033313b));
        Check.same("append", 40, lab.append(0x73696465, 0x20312039, 0x39392020, 0xffffffff, 0x80808080));
        Check.same("load", 2, lab.load(30));
        Check.same("side", 999, lab.side(1));
        Check.same("buffered", 0, lab.buffered());
        error("a byte of 255", "toeplitz 2 prime 3\u00ff", 1, 18);
    }

    private static void loading() {
        ToeplitzLab lab = Check.lab("toeplitz 2 prime 7;diagonal 0 1;side 0 5");
        lab.lift();
        lab.setProbe(0, 3);
        lab.save(0);
        lab.save(1);
        Check.throwing("load(-1)", Check.INDEX, () -> lab.load(-1));
        Check.throwing("load(1)", Check.INDEX, () -> lab.load(1));
        int length = Check.put(lab, "toeplitz 3 prime 5;diagonal");
        Check.throwing("load of a wrong text", Check.ARGUMENT, () -> lab.load(length));
        Check.same("the previous system", 2, lab.size());
        Check.same("its digits", 1, lab.digits());
        Check.same("its account", 1, lab.entries());
        Check.same("its changes", 2, lab.undoable());
        Check.same("what was saved", 2, lab.restore(1));
        lab.setProbe(1, 4);
        Check.same("load", 3, lab.load(Check.put(lab, "toeplitz 3 prime 5")));
        Check.same("prime", 5, lab.prime());
        Check.same("size", 3, lab.size());
        Check.same("digits", 0, lab.digits());
        Check.same("value", 0L, lab.value(0));
        Check.same("residual", 0, lab.residual(0));
        Check.same("diagonal", 0, lab.diagonal(0));
        Check.same("probe", 0, lab.probe(0));
        Check.same("entries", 0, lab.entries());
        Check.same("undoable", 0, lab.undoable());
        Check.throwing("restore(0)", Check.STATE, () -> lab.restore(0));
        Check.throwing("restore(1)", Check.STATE, () -> lab.restore(1));
        good("the first bytes alone", "toeplitz 4 prime 2", ";diagonal", 4);
        good("no blanks", "toeplitz0004prime0002;band-3-1-50;side3-999;probe0-0", "", 4);
        good("blanks everywhere", "  toeplitz  4  prime  2  ;  band  -  3  -  1  -  50  ", "", 4);
        good("all bounds", "toeplitz 7 prime 31;diagonal 6 50;diagonal -6 -50;side 6 999;probe 6 -999", "", 7);
        for (int prime : new int[] {2, 3, 5, 7, 11, 13, 17, 19, 23, 29, 31}) {
            Check.same("prime", prime, Check.lab("toeplitz 1 prime " + prime).prime());
        }
    }

    private static void positions() {
        error("an empty text", "", 1, 0);
        error("blanks alone", "   ", 1, 3);
        error("a missing prime", "toeplitz 3  ", 1, 12);
        error("a minus sign before a number out of bounds", "toeplitz 2 prime 3;diagonal - 0002 1", 2, 30);
        error("the digits behind a minus sign", "toeplitz 2 prime 3;side 0 -1000", 2, 27);
        error("a minus sign where none may stand", "toeplitz 2 prime 3;side -1 1", 1, 24);
        error("a minus sign behind another", "toeplitz 2 prime 3;side 0 --1", 1, 27);
        error("the first of two errors", "toeplitz 9 prime 4", 2, 9);
        ToeplitzLab lab = new ToeplitzLab();
        Check.put(lab, "toeplitz 3 prime 29");
        Check.same("the first bytes of a number", 3, lab.load(18));
        Check.same("prime", 2, lab.prime());
    }

    private static void lexicalErrors() {
        error("a capital letter", "Toeplitz 3 prime 5", 1, 0);
        error("a tabulator", "toeplitz\t3 prime 5", 1, 8);
        error("a byte 0", "toeplitz 3 prime 5\u0000", 1, 18);
        error("a plus sign", "toeplitz 3 prime 5;side 0 +1", 1, 26);
        error("a word of 9 letters", "toeplitzz 3 prime 5", 1, 0);
        error("a number of 5 digits", "toeplitz 00003 prime 5", 1, 9);
        error("a long number at the end", "toeplitz 3 prime 5;side 0 12345", 1, 26);
        error("signs around letters", "toeplitz 3 prime 5;`side 0 1", 1, 19);
        error("signs around letters", "toeplitz 3 prime 5;{side 0 1", 1, 19);
        error("signs around digits", "toeplitz 3 prime 5;side /", 1, 24);
        error("signs around digits", "toeplitz 3 prime 5;side :", 1, 24);
    }

    private static void grammarErrors() {
        error("another word", "toeplit 3 prime 5", 1, 0);
        error("a word of the same length", "toeplitx 3 prime 5", 1, 0);
        error("another first letter", "poeplitz 3 prime 5", 1, 0);
        error("another first letter", "toeplitz 3 prime 5;hand 0 0 1", 1, 19);
        error("a number at the beginning", "3 prime 5", 1, 0);
        error("no size", "toeplitz prime 5", 1, 9);
        error("a negative size", "toeplitz -3 prime 5", 1, 9);
        error("no word prime", "toeplitz 3 5", 1, 11);
        error("a negative prime", "toeplitz 3 prime -5", 1, 17);
        error("a word for a prime", "toeplitz 3 prime x", 1, 17);
        error("no semicolon", "toeplitz 3 prime 5 diagonal 0 1", 1, 19);
        error("a semicolon too many", "toeplitz 3 prime 5;;side 0 1", 1, 19);
        error("a semicolon at the end", "toeplitz 3 prime 5; ", 1, 20);
        error("an unknown line", "toeplitz 3 prime 5;toeplitz", 1, 19);
        error("a number for a line", "toeplitz 3 prime 5;3", 1, 19);
        error("a diagonal without a value", "toeplitz 3 prime 5;diagonal 0;side 0 1", 1, 29);
        error("a band with two numbers", "toeplitz 3 prime 5;band 0 1", 1, 27);
        error("a side without a part", "toeplitz 3 prime 5;side 0", 1, 25);
        error("a minus sign at the end", "toeplitz 3 prime 5;probe 0 -", 1, 28);
        error("a number too many", "toeplitz 3 prime 5;side 0 1 2", 1, 28);
    }

    private static void boundErrors() {
        error("size 0", "toeplitz 0 prime 5", 2, 9);
        error("size 8", "toeplitz 8 prime 5", 2, 9);
        for (int number : new int[] {0, 1, 4, 9, 15, 21, 25, 27, 37, 9999}) {
            error("prime " + number, "toeplitz 3 prime " + number, 2, 17);
        }
        String head = "toeplitz 3 prime 5;";
        error("a diagonal too high", head + "diagonal 3 1", 2, 28);
        error("a diagonal too low", head + "diagonal -3 1", 2, 29);
        error("a value too high", head + "diagonal 0 51", 2, 30);
        error("a value too low", head + "diagonal 0 -51", 2, 31);
        error("a from too high", head + "band 3 3 1", 2, 24);
        error("a from too low", head + "band -3 0 1", 2, 25);
        error("a to too high", head + "band 0 3 1", 2, 26);
        error("a to below from", head + "band 1 0 1", 2, 26);
        error("a to far below from", head + "band -1 -2 1", 2, 28);
        error("a band's value too high", head + "band 0 0 51", 2, 28);
        error("a row too high", head + "side 3 1", 2, 24);
        error("a probe's row too high", head + "probe 3 1", 2, 25);
        error("a part too high", head + "side 0 1000", 2, 26);
        error("a part too low", head + "probe 0 -1000", 2, 28);
    }

    private static void repeatErrors() {
        String head = "toeplitz 3 prime 5;";
        error("a diagonal twice", head + "diagonal 0 1;diagonal 0 1", 3, 41);
        error("a diagonal of a band", head + "band -1 1 1;diagonal -1 1", 3, 41);
        error("a band over a diagonal", head + "diagonal 1 1;band 0 2 1", 3, 39);
        error("a band from a told diagonal", head + "diagonal 0 1;band 0 1 1", 3, 39);
        error("a band over a band", head + "band -2 0 1;band 0 0 1", 3, 38);
        error("a to that is out of its bounds too", head + "diagonal 1 1;band 1 0 1", 2, 39);
        error("a side twice", head + "side 1 1;side 2 1;side 1 1", 3, 42);
        error("a probe twice", head + "probe 2 1;probe 2 1", 3, 35);
        good("a row of both sorts", head + "side 1 1;probe 1 1;side 2 1;probe 0 1", "", 3);
        good("the last side and the first probe", "toeplitz 7 prime 5;side 6 1;probe 0 1", "", 7);
        good("bands side by side", head + "band -2 -1 1;band 0 1 1;diagonal 2 2", "", 3);
    }

    private static void bandErrors() {
        StringBuilder eight = new StringBuilder("toeplitz 7 prime 5");
        for (int k = -6; k < 2; k++) {
            eight.append(";band ").append(k).append(' ').append(k).append(" 1");
        }
        good("eight bands", eight.toString(), "", 7);
        error("a ninth band", eight + ";diagonal 2 2; band 6 6 1", 4, eight.length() + 15);
        error("a ninth band, wrong behind its first word", eight + ";band", 4, eight.length() + 1);
        error("another error before", eight + ";;band 6 6 1", 1, eight.length() + 1);
        good("a diagonal behind eight bands", eight + ";diagonal 6 6", "", 7);
        ToeplitzLab lab = Check.lab(eight + ";side 0 1;probe 0 1");
        Check.same("what an earlier text told does not count", 7,
                lab.load(Check.put(lab, eight + ";side 0 1;probe 0 1")));
    }

    private static void latestError() {
        ToeplitzLab lab = new ToeplitzLab();
        int length = Check.put(lab, "toeplitz 3 prime 6");
        Check.throwing("load", Check.ARGUMENT, () -> lab.load(length));
        Check.put(lab, "toeplitz 3 prime 5");
        Check.throwing("load beyond the buffer", Check.INDEX, () -> lab.load(21));
        Check.same("the error stays", 2, lab.parseError());
        Check.same("its position stays", 17, lab.errorPosition());
        Check.same("the buffer stays", 20, lab.buffered());
        Check.same("load", 3, lab.load(20));
        Check.same("no error", 0, lab.parseError());
        Check.same("no position", ToeplitzLab.NONE, lab.errorPosition());
    }

    private static void good(String what, String text, String behind, int size) {
        ToeplitzLab lab = new ToeplitzLab();
        Check.put(lab, text + behind);
        Check.same(what, size, lab.load(text.length()));
        Check.same(what + ": parseError", 0, lab.parseError());
        Check.same(what + ": buffered", 0, lab.buffered());
    }

    private static void error(String what, String text, int code, int position) {
        ToeplitzLab lab = new ToeplitzLab();
        int length = Check.put(lab, text);
        Check.throwing(what, Check.ARGUMENT, () -> lab.load(length));
        Check.same(what + ": parseError", code, lab.parseError());
        Check.same(what + ": errorPosition", position, lab.errorPosition());
        Check.same(what + ": buffered", 0, lab.buffered());
        Check.same(what + ": size", 0, lab.size());
    }
}
