/** The edges of promises 1 to 6: a new object, append, load, parseError, errorPosition and buffered. */
public final class EdgeInputTest {
    private static final String THREE = "toeplitz 3 prime 29;probe 0 1";

    public static void main(String[] args) {
        newObject();
        objectsApart();
        placesOfBytes();
        highBytes();
        fullBuffer();
        lengths();
        lengthIsTestedFirst();
        firstBytes();
        emptyText();
        emptiedBuffer();
        replacedSystem();
        untoldIsZero();
        errorKeepsSystem();
        errorWithoutSystem();
        latestCode();
        positions();
        bufferedBytes();
        Check.finish();
    }

    /** 1: "Creates an object without a system and with an empty input buffer." */
    private static void newObject() {
        Edge.asked("size", 0, ToeplitzLab::new, ToeplitzLab::size);
        Edge.asked("prime", 0, ToeplitzLab::new, ToeplitzLab::prime);
        Edge.asked("entries", 0, ToeplitzLab::new, ToeplitzLab::entries);
        Edge.asked("undoable", 0, ToeplitzLab::new, ToeplitzLab::undoable);
        Edge.asked("buffered", 0, ToeplitzLab::new, ToeplitzLab::buffered);
        Edge.asked("parseError", 0, ToeplitzLab::new, ToeplitzLab::parseError);
        Edge.asked("errorPosition", -1, ToeplitzLab::new, ToeplitzLab::errorPosition);
        Edge.refused("a question about the system", Check.STATE, ToeplitzLab::new, ToeplitzLab::digits);
        Edge.refused("one byte", Check.INDEX, ToeplitzLab::new, lab -> lab.load(1));
        Edge.refused("slot 0", Check.STATE, ToeplitzLab::new, lab -> lab.restore(0));
        Edge.refused("slot 1", Check.STATE, ToeplitzLab::new, lab -> lab.restore(1));
    }

    /** 1: an object that is made beside another one begins with nothing of it, and leaves it alone. */
    private static void objectsApart() {
        ToeplitzLab used = Edge.used();
        Check.same("a new object beside a used one", storyOfNew(), Edge.story(new ToeplitzLab()));
        Check.same("the used one", Edge.story(Edge.used()), Edge.story(used));
    }

    private static String storyOfNew() {
        String nothing = " class java.lang.IllegalStateException 0 prime 0 entries 0";
        return "0 prime 0 account undoable 0 error 0 -1\nrestore" + nothing + "\nrestore" + nothing
                + "\nload 0 class java.lang.IllegalArgumentException error 1 0 0 prime 0 entries 0";
    }

    /** 2: "the four bytes of each argument in order, the most significant byte first" */
    private static void placesOfBytes() {
        for (int place = 0; place < 40; place++) {
            StringBuilder text = new StringBuilder(" ".repeat(40));
            text.setCharAt(place, '!');
            wrong("a sign at the place " + place, text.toString(), 1, place);
        }
        ToeplitzLab lab = new ToeplitzLab();
        Check.same("append", 20, lab.append(0x20746f65, 0x706c6974, 0x7a203720, 0x7072696d, 0x65203331));
        Check.same("load", 7, lab.load(20));
        Check.same("prime", 31, lab.prime());
    }

    /** 2: a byte is 0 to 255; with the highest bit it is none of the bytes without it. */
    private static void highBytes() {
        String text = "toeplitz 2 prime 7;side 1 -8 ";
        for (int place = 0; place < text.length(); place++) {
            StringBuilder high = new StringBuilder(text);
            high.setCharAt(place, (char) (text.charAt(place) + 128));
            wrong("a high byte at " + place, high.toString(), 1, tokenBefore(text, place));
        }
        ToeplitzLab lab = new ToeplitzLab();
        Check.same("append of the ends of the ints", 20, lab.append(Integer.MIN_VALUE, -1, 0, Integer.MAX_VALUE, 1));
    }

    /** A byte that starts no token ends a word, which is too short then and so the first error. */
    private static int tokenBefore(String text, int place) {
        int start = place;
        while (start > 0 && Character.isLetter(text.charAt(start - 1)) && Character.isLetter(text.charAt(place))) {
            start--;
        }
        return start;
    }

    /** 2: "NONE if there would be more than 700, in which case nothing is appended" */
    private static void fullBuffer() {
        ToeplitzLab lab = withBlanks(33);
        Check.same("the 34th append", 680, lab.append(0x20202020, 0x20202020, 0x20202020, 0x20202020, 0x20202020));
        Check.same("the 35th append", 700, lab.append(0x20746f65, 0x706c6974, 0x7a203720, 0x7072696d, 0x65203331));
        for (int again = 0; again < 3; again++) {
            Check.same("the 36th append", -1, lab.append(0x3b786f65, 0x706c6974, 0x7a203720, 0x7072696d, 0x65203331));
            Check.same("buffered", 700, lab.buffered());
        }
        Check.throwing("load(701)", Check.INDEX, () -> lab.load(701));
        Check.same("load(700)", 7, lab.load(700));
        Check.same("prime", 31, lab.prime());
        Check.same("append to the emptied buffer", 20, lab.append(0, 0, 0, 0, 0));
    }

    private static ToeplitzLab withBlanks(int appends) {
        ToeplitzLab lab = new ToeplitzLab();
        for (int k = 1; k <= appends; k++) {
            Check.same("append", 20 * k, lab.append(0x20202020, 0x20202020, 0x20202020, 0x20202020, 0x20202020));
        }
        return lab;
    }

    /** 3: "if n is negative or greater than the number of bytes in the buffer; the buffer, [...] stay" */
    private static void lengths() {
        Edge.Making loaded = () -> {
            ToeplitzLab lab = Edge.used();
            Check.put(lab, ";");
            return lab;
        };
        Edge.beyond("load", Check.INDEX, Edge::used, 0, 20, ToeplitzLab::load);
        Edge.beyond("load", Check.INDEX, loaded, 0, 40, ToeplitzLab::load);
        Edge.beyond("load from an empty buffer", Check.INDEX, ToeplitzLab::new, 0, 0, ToeplitzLab::load);
        Check.same("load of all bytes", 2, Edge.used().load(20));
        Check.throwing("load of no bytes", Check.ARGUMENT, () -> Edge.used().load(0));
    }

    /** 3: the exception that is listed first is thrown, even where the text has an error. */
    private static void lengthIsTestedFirst() {
        Edge.Making wrong = () -> {
            ToeplitzLab lab = new ToeplitzLab();
            Check.put(lab, "!");
            return lab;
        };
        Edge.refused("load(21)", Check.INDEX, wrong, lab -> lab.load(21));
        Edge.refused("load(-1)", Check.INDEX, wrong, lab -> lab.load(-1));
        Check.throwing("load(20)", Check.ARGUMENT, () -> wrong.make().load(20));
    }

    /** 3: "Parses the first n bytes of the input buffer" */
    private static void firstBytes() {
        for (int more = 0; more < 3; more++) {
            ToeplitzLab lab = new ToeplitzLab();
            Check.put(lab, "toeplitz 1 prime 29!");
            int length = 18 + more;
            if (more < 2) {
                Check.same("load " + length, 1, lab.load(length));
                Check.same("prime", more == 0 ? 2 : 29, lab.prime());
            } else {
                Check.throwing("load " + length, Check.ARGUMENT, () -> lab.load(length));
            }
        }
        wrong("a word that is cut", "toeplitz 1 prim", 1, 11);
    }

    /** 3 and 4: no bytes at all are a text with an error at its end. */
    private static void emptyText() {
        wrong("no bytes", "", 1, 0);
        ToeplitzLab lab = Edge.used();
        Check.throwing("load(0)", Check.ARGUMENT, () -> lab.load(0));
        Check.same("buffered", 0, lab.buffered());
        Check.same("errorPosition", 0, lab.errorPosition());
        Check.same("size", 3, lab.size());
    }

    /** 3: "empties the buffer, even if the parse fails" */
    private static void emptiedBuffer() {
        ToeplitzLab lab = new ToeplitzLab();
        Check.put(lab, "toeplitz 1 prime 5 ;diagonal 0 44");
        Check.same("load of a part", 1, lab.load(18));
        Check.same("buffered", 0, lab.buffered());
        Check.throwing("one byte more", Check.INDEX, () -> lab.load(1));
        Check.put(lab, "toeplitz 1 prime 5 ;!");
        Check.throwing("load of a part with an error", Check.ARGUMENT, () -> lab.load(20));
        Check.same("buffered", 0, lab.buffered());
        Check.throwing("one byte more", Check.INDEX, () -> lab.load(1));
        Check.put(lab, "toeplitz 1 prime 5");
        Check.same("nothing of what was there stands behind", 1, lab.load(20));
        Check.same("diagonal", 0, lab.diagonal(0));
    }

    /** 3: "the system replaces the previous one, the refinement begins, the account is empty, [...]" */
    private static void replacedSystem() {
        ToeplitzLab lab = Edge.used();
        Check.same("changes before", true, lab.undoable() > 0 && lab.entries() > 0 && lab.digits() > 0);
        Check.same("load", 2, lab.load(20));
        Check.same("all of it", Edge.story(Check.lab("toeplitz 2 prime 13")), Edge.story(lab));
        ToeplitzLab same = Check.lab(THREE);
        same.setProbe(0, 2);
        same.save(0);
        same.load(Check.put(same, THREE));
        Check.same("the same text again", Edge.story(Check.lab(THREE)), Edge.story(same));
    }

    /** Section 6: "Diagonals, sides and probes that are not told are 0." */
    private static void untoldIsZero() {
        ToeplitzLab lab = Check.lab("toeplitz 7 prime 31;band -6 6 50;side 0 1;side 6 2;probe 0 3;probe 6 4");
        lab.load(Check.put(lab, "toeplitz 7 prime 31"));
        Check.same("after a text that told them", "0 0 0 0 0 0 0 0 0 0 0 0 0", Check.row(13, k -> lab.diagonal(k - 6)));
        Check.same("sides", "0 0 0 0 0 0 0", Check.row(7, lab::side));
        Check.same("probes", "0 0 0 0 0 0 0", Check.row(7, lab::probe));
        Edge.fail(lab, "toeplitz 7 prime 31;band -6 6 50;side 0 1;side 6 2;probe 0 3;probe 6 4;");
        lab.load(Check.put(lab, "toeplitz 7 prime 31;diagonal 1 5"));
        Check.same("after an error behind them", "0 0 0 0 0 0 0 5 0 0 0 0 0", Check.row(13, k -> lab.diagonal(k - 6)));
        Check.same("sides", "0 0 0 0 0 0 0", Check.row(7, lab::side));
        Check.same("probes", "0 0 0 0 0 0 0", Check.row(7, lab::probe));
    }

    /** 3: "if the text has an error; the previous system stays" */
    private static void errorKeepsSystem() {
        for (String text : new String[] {"", "x", "toeplitz 9", "toeplitz 2 prime 13;diagonal 0 1;diagonal 0 1"}) {
            ToeplitzLab lab = Edge.used();
            lab.load(20);
            afterSomeChanges(lab);
            String before = Edge.story(afterSomeChanges(Check.lab("toeplitz 2 prime 13")));
            Edge.fail(lab, text);
            Check.same("parseError", true, lab.parseError() > 0);
            Check.same("load of " + text, withoutError(before), withoutError(Edge.story(lab)));
        }
    }

    private static ToeplitzLab afterSomeChanges(ToeplitzLab lab) {
        lab.setDiagonal(0, 3);
        lab.setSide(1, 7);
        lab.lift();
        lab.save(1);
        lab.setProbe(0, 6);
        return lab;
    }

    private static String withoutError(String story) {
        return story.replaceFirst(" error -?\\d+ -?\\d+", "");
    }

    /** 3: where there is no system, a text with an error makes none. */
    private static void errorWithoutSystem() {
        ToeplitzLab lab = new ToeplitzLab();
        Edge.fail(lab, "toeplitz 3 prime 5;side 3 1");
        Check.same("size", 0, lab.size());
        Check.same("prime", 0, lab.prime());
        Check.throwing("side", Check.STATE, () -> lab.side(0));
        Check.throwing("save", Check.STATE, () -> lab.save(0));
    }

    /** 4: "of the latest call of load that did not throw IndexOutOfBoundsException"; "0 if that call succeeded" */
    private static void latestCode() {
        ToeplitzLab lab = new ToeplitzLab();
        String eight = EdgeTextTest.bands(8);
        String[] texts = {"toeplitz", "toeplitz 8", "toeplitz 1 prime 2;side 0 1;side 0 1", eight + ";band"};
        int[] places = {8, 9, 33, eight.length() + 1};
        for (int code = 1; code <= 4; code++) {
            Edge.fail(lab, texts[code - 1]);
            codeAndPlace(lab, code, places[code - 1]);
            Check.throwing("load(-1)", Check.INDEX, () -> lab.load(-1));
            codeAndPlace(lab, code, places[code - 1]);
            Check.throwing("load(1)", Check.INDEX, () -> lab.load(1));
            codeAndPlace(lab, code, places[code - 1]);
            lab.append(0x20202020, 0x20202020, 0x20202020, 0x20202020, 0x20202020);
            codeAndPlace(lab, code, places[code - 1]);
            Check.throwing("load(21)", Check.INDEX, () -> lab.load(21));
            codeAndPlace(lab, code, places[code - 1]);
            Check.put(lab, "toeplitz 1 prime 2");
            Check.same("load", 1, lab.load(40));
            codeAndPlace(lab, 0, -1);
            Check.throwing("load(1)", Check.INDEX, () -> lab.load(1));
            codeAndPlace(lab, 0, -1);
        }
    }

    private static void codeAndPlace(ToeplitzLab lab, int code, int place) {
        Check.same("parseError", code, lab.parseError());
        Check.same("errorPosition", place, lab.errorPosition());
    }

    /** 5: "the position; NONE if parseError() is 0": 0 is a position. */
    private static void positions() {
        wrong("the first byte", "!", 1, 0);
        wrong("the last byte of 700", " ".repeat(699) + "!", 1, 699);
        wrong("the end of 700 bytes", " ".repeat(700), 1, 700);
        wrong("the end of 699 bytes", " ".repeat(699), 1, 699);
        ToeplitzLab lab = Check.lab("toeplitz 1 prime 2");
        codeAndPlace(lab, 0, ToeplitzLab.NONE);
    }

    /** 6: "Returns the number of bytes in the input buffer." */
    private static void bufferedBytes() {
        ToeplitzLab lab = withBlanks(35);
        Check.same("buffered", 700, lab.buffered());
        Check.throwing("load", Check.ARGUMENT, () -> lab.load(3));
        Check.same("behind load", 0, lab.buffered());
        Check.put(lab, "toeplitz 1 prime 2");
        Check.same("behind append", 20, lab.buffered());
        lab.load(18);
        Check.same("behind load", 0, lab.buffered());
    }

    private static void wrong(String what, String text, int code, int place) {
        ToeplitzLab lab = new ToeplitzLab();
        Edge.fail(lab, text);
        Check.same(what + ": parseError", code, lab.parseError());
        Check.same(what + ": errorPosition", place, lab.errorPosition());
    }
}
