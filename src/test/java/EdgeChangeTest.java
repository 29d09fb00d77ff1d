/** The edges of promises 48 to 55: the changes. */
public final class EdgeChangeTest {
    /** Two digits of four, so that there is a refinement that can be lost. */
    private static final Edge.Making TWO = () -> {
        ToeplitzLab lab = Check.lab(RefinementTest.SMALL + ";probe 0 5;probe 1 -6");
        lab.refine(2);
        return lab;
    };
    private static final Edge.Making ONE = Edge.of("toeplitz 1 prime 31;diagonal 0 1;side 0 2;probe 0 3");
    private static final Edge.Making SEVEN =
            Edge.of("toeplitz 7 prime 2;diagonal 0 1;diagonal 6 6;diagonal -6 -6;side 6 7");
    private static final Edge.Making SINGULAR = Edge.of("toeplitz 2 prime 5;side 0 1");
    private static final String ACCOUNT = " account (1 2 0) (2 3 0)";
    private static final String DIGITS = " digits 2 values 14 16 residuals -3 -2";
    private static final String ENDLESS = EdgeRefinementTest.LADDER.replace("side 0 2", "side 0 3");

    public static void main(String[] args) {
        noSystem();
        setDiagonal();
        setSide();
        setProbe();
        setPrime();
        sameValues();
        goesOnAnew();
        grow();
        growRefused();
        newProbeIsZero();
        shrink();
        shrunkForGood();
        shrinkRefused();
        lift();
        liftWithoutRoom();
        notRegular();
        refineBounds();
        refineStops();
        refineWithoutLifts();
        Check.finish();
    }

    /** A call that answers what is due, leaves what is due, is one change and can be undone. */
    private static void changed(String what, Object due, String after, Edge.Making making, Edge.Use change) {
        ToeplitzLab lab = making.make();
        int before = lab.undoable();
        Check.same(what, due, change.answer(lab));
        Check.same(what + ": what there is then", after, Check.state(lab));
        Check.same(what + ": one change", before + 1, lab.undoable());
        Check.same(what + ": undo", before, lab.undo());
        Check.same(what + ": undone", Edge.story(making.make()), Edge.story(lab));
    }

    private static void same(String what, Object due, Edge.Making making, Edge.Use change) {
        changed(what, due, Check.state(making.make()), making, change);
    }

    /** 48 to 55: "if there is no system" is listed first. */
    private static void noSystem() {
        for (int number : new int[] {-1000, -1, 0, 1, 2, 1000}) {
            Edge.refused("setDiagonal", Check.STATE, ToeplitzLab::new, lab -> lab.setDiagonal(number, number));
            Edge.refused("setSide", Check.STATE, ToeplitzLab::new, lab -> lab.setSide(number, number));
            Edge.refused("setProbe", Check.STATE, ToeplitzLab::new, lab -> lab.setProbe(number, number));
            Edge.refused("setPrime", Check.STATE, ToeplitzLab::new, lab -> lab.setPrime(number));
            Edge.refused("grow", Check.STATE, ToeplitzLab::new, lab -> lab.grow(number, number, number));
            Edge.refused("refine", Check.STATE, ToeplitzLab::new, lab -> lab.refine(number));
        }
        Edge.refused("shrink", Check.STATE, ToeplitzLab::new, ToeplitzLab::shrink);
        Edge.refused("lift", Check.STATE, ToeplitzLab::new, ToeplitzLab::lift);
    }

    /** 48: "number of the diagonal", "-50 to 50"; "Returns the previous value." */
    private static void setDiagonal() {
        String behind = " sides 1 -4 probes 5 -6 digits 0 values 0 0 residuals 1 -4" + ACCOUNT;
        changed("the first", 3, "2 prime 5 diagonals 50 2 1" + behind, TWO, lab -> lab.setDiagonal(-1, 50));
        changed("the first", 3, "2 prime 5 diagonals -50 2 1" + behind, TWO, lab -> lab.setDiagonal(-1, -50));
        changed("the last", 1, "2 prime 5 diagonals 3 2 50" + behind, TWO, lab -> lab.setDiagonal(1, 50));
        changed("the last", 1, "2 prime 5 diagonals 3 2 -50" + behind, TWO, lab -> lab.setDiagonal(1, -50));
        changed("to 0", 2, "2 prime 5 diagonals 3 0 1" + behind, TWO, lab -> lab.setDiagonal(0, 0));
        Edge.beyond("diagonal", Check.INDEX, TWO, -1, 1, (lab, k) -> lab.setDiagonal(k, 4));
        Edge.beyond("diagonal", Check.INDEX, ONE, 0, 0, (lab, k) -> lab.setDiagonal(k, 4));
        Edge.beyond("diagonal", Check.INDEX, SEVEN, -6, 6, (lab, k) -> lab.setDiagonal(k, 4));
        Edge.beyond("diagonal and value", Check.INDEX, TWO, -1, 1, (lab, k) -> lab.setDiagonal(k, 51));
        Edge.beyond("diagonal and value", Check.INDEX, TWO, -1, 1, (lab, k) -> lab.setDiagonal(k, -51));
        Edge.beyond("value", Check.ARGUMENT, TWO, -50, 50, (lab, value) -> lab.setDiagonal(0, value));
        Edge.beyond("value", Check.ARGUMENT, TWO, -50, 50, (lab, value) -> lab.setDiagonal(-1, value));
        Edge.asked("diagonals", "-6 6", SEVEN, lab -> lab.diagonal(-6) + " " + lab.diagonal(6));
        Check.same("the last of seven", 6, SEVEN.make().setDiagonal(6, 50));
        Check.same("the first of seven", -6, SEVEN.make().setDiagonal(-6, -50));
    }

    /** 49: "number of the row", "-999 to 999"; "Returns the previous component." */
    private static void setSide() {
        String head = "2 prime 5 diagonals 3 2 1 sides ";
        String behind = " probes 5 -6 digits 0 values 0 0 residuals ";
        for (int value : new int[] {-999, -1, 0, 999}) {
            String first = value + " -4";
            changed("the first", 1, head + first + behind + first + ACCOUNT, TWO, lab -> lab.setSide(0, value));
            String last = "1 " + value;
            changed("the last", -4, head + last + behind + last + ACCOUNT, TWO, lab -> lab.setSide(1, value));
        }
        Edge.beyond("row", Check.INDEX, TWO, 0, 1, (lab, i) -> lab.setSide(i, 4));
        Edge.beyond("row", Check.INDEX, SEVEN, 0, 6, (lab, i) -> lab.setSide(i, 4));
        Edge.beyond("row and value", Check.INDEX, TWO, 0, 1, (lab, i) -> lab.setSide(i, 1000));
        Edge.beyond("row and value", Check.INDEX, TWO, 0, 1, (lab, i) -> lab.setSide(i, -1000));
        Edge.beyond("value", Check.ARGUMENT, TWO, -999, 999, (lab, value) -> lab.setSide(0, value));
        Edge.beyond("value", Check.ARGUMENT, TWO, -999, 999, (lab, value) -> lab.setSide(1, value));
        Check.same("the last of seven", 7, SEVEN.make().setSide(6, -999));
    }

    /** 50: "number of the row", "-999 to 999"; the refinement stays, since it does not go with the probe. */
    private static void setProbe() {
        String head = "2 prime 5 diagonals 3 2 1 sides 1 -4 probes ";
        for (int value : new int[] {-999, -1, 0, 999}) {
            changed("the first", 5, head + value + " -6" + DIGITS + ACCOUNT, TWO, lab -> lab.setProbe(0, value));
            changed("the last", -6, head + "5 " + value + DIGITS + ACCOUNT, TWO, lab -> lab.setProbe(1, value));
        }
        Edge.beyond("row", Check.INDEX, TWO, 0, 1, (lab, i) -> lab.setProbe(i, 4));
        Edge.beyond("row", Check.INDEX, SEVEN, 0, 6, (lab, i) -> lab.setProbe(i, 4));
        Edge.beyond("row and value", Check.INDEX, TWO, 0, 1, (lab, i) -> lab.setProbe(i, 1000));
        Edge.beyond("row and value", Check.INDEX, TWO, 0, 1, (lab, i) -> lab.setProbe(i, -1000));
        Edge.beyond("value", Check.ARGUMENT, TWO, -999, 999, (lab, value) -> lab.setProbe(0, value));
        Edge.beyond("value", Check.ARGUMENT, TWO, -999, 999, (lab, value) -> lab.setProbe(1, value));
        Check.same("the last of seven", 0, SEVEN.make().setProbe(6, -999));
    }

    /** 51: "one of the primes"; "Returns the previous one." */
    private static void setPrime() {
        String behind = " diagonals 3 2 1 sides 1 -4 probes 5 -6 digits 0 values 0 0 residuals 1 -4" + ACCOUNT;
        int[] primes = {2, 3, 5, 7, 11, 13, 17, 19, 23, 29, 31};
        int next = 0;
        for (int number = -31; number <= 1000; number++) {
            int prime = number;
            if (next < primes.length && primes[next] == number) {
                next++;
                changed("setPrime", 5, "2 prime " + number + behind, TWO, lab -> lab.setPrime(prime));
                ToeplitzLab twice = TWO.make();
                twice.setPrime(prime);
                Check.same("the previous one", prime, twice.setPrime(19));
            } else if (number < 40 || number > 990) {
                Edge.refused("setPrime " + number, Check.ARGUMENT, TWO, lab -> lab.setPrime(prime));
            }
        }
        Edge.refused("the smallest int", Check.ARGUMENT, TWO, lab -> lab.setPrime(Integer.MIN_VALUE));
        Edge.refused("the greatest int", Check.ARGUMENT, TWO, lab -> lab.setPrime(Integer.MAX_VALUE));
    }

    /** Section 3: "(by setDiagonal, [...], also to the same value) begins the refinement anew" */
    private static void sameValues() {
        String system = "2 prime 5 diagonals 3 2 1 sides 1 -4 probes 5 -6";
        String anew = system + " digits 0 values 0 0 residuals 1 -4" + ACCOUNT;
        changed("setDiagonal", 2, anew, TWO, lab -> lab.setDiagonal(0, 2));
        changed("setDiagonal", 3, anew, TWO, lab -> lab.setDiagonal(-1, 3));
        changed("setSide", 1, anew, TWO, lab -> lab.setSide(0, 1));
        changed("setSide", -4, anew, TWO, lab -> lab.setSide(1, -4));
        changed("setPrime", 5, anew, TWO, lab -> lab.setPrime(5));
        same("setProbe", 5, TWO, lab -> lab.setProbe(0, 5));
        same("setProbe", -6, TWO, lab -> lab.setProbe(1, -6));
        same("setDiagonal without digits", 1, ONE, lab -> lab.setDiagonal(0, 1));
    }

    /** Section 3: a refinement that begins anew goes on as that of a new system, with its own M. */
    private static void goesOnAnew() {
        Edge.Use[] changes = {lab -> lab.setDiagonal(0, 2), lab -> lab.setSide(1, -4), lab -> lab.setPrime(5), lab -> {
            lab.grow(1, 2, 3);
            return lab.shrink();
        }};
        ToeplitzLab fresh = Check.lab(RefinementTest.SMALL + ";probe 0 5;probe 1 -6");
        ToeplitzLab[] labs = new ToeplitzLab[changes.length];
        for (int k = 0; k < changes.length; k++) {
            labs[k] = TWO.make();
            changes[k].answer(labs[k]);
        }
        for (int digits = 0; digits <= 5; digits++) {
            for (ToeplitzLab lab : labs) {
                Check.same("the refinement", Check.system(fresh), Check.system(lab));
                Check.same("centred", Check.row(2, fresh::centred), Check.row(2, lab::centred));
                Check.same("denominator", Check.row(2, fresh::denominator), Check.row(2, lab::denominator));
                Check.same("isExact", digits > 3, lab.isExact());
                Check.same("liftsTo", fresh.liftsTo(), lab.liftsTo());
                Check.same("lift", digits + 1, lab.lift());
            }
            fresh.lift();
        }
    }

    /** 52: "-50 to 50", "-50 to 50", "-999 to 999"; "Returns SIZE afterwards." */
    private static void grow() {
        changed("grow", 3, "3 prime 5 diagonals -50 3 2 1 50 sides 1 -4 999 probes 5 -6 0 digits 0 values 0 0 0"
                + " residuals 1 -4 999" + ACCOUNT, TWO, lab -> lab.grow(50, -50, 999));
        changed("grow", 3, "3 prime 5 diagonals 50 3 2 1 -50 sides 1 -4 -999 probes 5 -6 0 digits 0 values 0 0 0"
                + " residuals 1 -4 -999" + ACCOUNT, TWO, lab -> lab.grow(-50, 50, -999));
        changed("grow", 2, "2 prime 31 diagonals 0 1 0 sides 2 0 probes 3 0 digits 0 values 0 0 residuals 2 0 account",
                ONE, lab -> lab.grow(0, 0, 0));
        ToeplitzLab lab = ONE.make();
        for (int size = 2; size <= 7; size++) {
            Check.same("grow", size, lab.grow(size, -size, 10 * size));
            Check.same("the greatest number", size, lab.diagonal(size - 1));
            Check.same("the smallest number", -size, lab.diagonal(1 - size));
            Check.same("the side", 10 * size, lab.side(size - 1));
        }
        Check.same("diagonals", "-7 -6 -5 -4 -3 -2 1 2 3 4 5 6 7", Check.row(13, k -> lab.diagonal(k - 6)));
        Check.throwing("an eighth row", Check.ARGUMENT, () -> lab.grow(0, 0, 0));
        Check.same("undo", 5, lab.undo());
        Check.same("the seventh row again", 7, lab.grow(1, 1, 1));
    }

    /** 52: "if SIZE is 7, or an argument is out of range" */
    private static void growRefused() {
        Edge.beyond("below", Check.ARGUMENT, TWO, -50, 50, (lab, below) -> lab.grow(below, 0, 0));
        Edge.beyond("above", Check.ARGUMENT, TWO, -50, 50, (lab, above) -> lab.grow(0, above, 0));
        Edge.beyond("part", Check.ARGUMENT, TWO, -999, 999, (lab, part) -> lab.grow(0, 0, part));
        Edge.beyond("all of them", Check.ARGUMENT, TWO, -50, 999, (lab, all) -> lab.grow(all, all, all));
        Edge.refused("SIZE 7", Check.ARGUMENT, SEVEN, lab -> lab.grow(0, 0, 0));
        Edge.refused("SIZE 7", Check.ARGUMENT, SEVEN, lab -> lab.grow(50, -50, 999));
        Edge.refused("SIZE 7 and an argument", Check.ARGUMENT, SEVEN, lab -> lab.grow(51, 0, 0));
    }

    /** 52: "The new component of the probe is 0", also where there was another one before */
    private static void newProbeIsZero() {
        ToeplitzLab lab = TWO.make();
        lab.setProbe(1, 7);
        lab.shrink();
        lab.grow(8, 9, 10);
        Check.same("all that is new", "2 prime 5 diagonals 9 2 8 sides 1 10 probes 5 0 digits 0 values 0 0 residuals 1 10"
                + ACCOUNT, Check.state(lab));
    }

    /** 53: "Removes the last row and the last column, and the last components" */
    private static void shrink() {
        changed("shrink", 1, "1 prime 5 diagonals 2 sides 1 probes 5 digits 0 values 0 residuals 1" + ACCOUNT, TWO,
                ToeplitzLab::shrink);
        changed("shrink", 6, "6 prime 2 diagonals 0 0 0 0 0 1 0 0 0 0 0 sides 0 0 0 0 0 0 probes 0 0 0 0 0 0"
                + " digits 0 values 0 0 0 0 0 0 residuals 0 0 0 0 0 0 account", SEVEN, ToeplitzLab::shrink);
        ToeplitzLab lab = SEVEN.make();
        for (int size = 6; size >= 1; size--) {
            Check.same("shrink", size, lab.shrink());
        }
        Check.throwing("the last row", Check.ARGUMENT, lab::shrink);
        Check.same("size", 1, lab.size());
        Check.same("undoable", 6, lab.undoable());
    }

    /** 53: what is removed is gone: the refinement goes on as that of a system that never had the row. */
    private static void shrunkForGood() {
        for (int size = 6; size >= 1; size--) {
            ToeplitzLab lab = Check.lab(filled(7));
            lab.refine(3);
            while (lab.size() > size) {
                lab.shrink();
            }
            ToeplitzLab twin = Check.lab(filled(size));
            for (int digits = 1; digits <= 5; digits++) {
                Check.same("liftsTo", twin.liftsTo(), lab.liftsTo());
                Check.same("lift", digits, lab.lift());
                twin.lift();
                Check.same("the refinement", Check.system(twin), Check.system(lab));
                Check.same("denominator", Check.row(size, twin::denominator), Check.row(size, lab::denominator));
                int entry = digits - 1;
                Check.same("the entry", Check.row(3, what -> twin.accountOf(entry, what)),
                        Check.row(3, what -> lab.accountOf(3 + entry, what)));
            }
        }
    }

    /** The unit matrix modulo 2, with other entries beside the main diagonal; the last side is the greatest. */
    private static String filled(int size) {
        StringBuilder text = new StringBuilder("toeplitz ").append(size).append(" prime 2;diagonal 0 1");
        for (int k = 1; k < size; k++) {
            text.append(";diagonal ").append(k).append(' ').append(2 * k);
            text.append(";diagonal ").append(-k).append(' ').append(-2 * k);
        }
        for (int i = 0; i < size; i++) {
            text.append(";side ").append(i).append(' ').append(9 + 150 * i);
        }
        return text.toString();
    }

    /** 53: "if SIZE is 1" */
    private static void shrinkRefused() {
        Edge.refused("SIZE 1", Check.ARGUMENT, ONE, ToeplitzLab::shrink);
        Edge.Making lifted = () -> {
            ToeplitzLab lab = TWO.make();
            lab.shrink();
            lab.lift();
            return lab;
        };
        Edge.refused("SIZE 1", Check.ARGUMENT, lifted, ToeplitzLab::shrink);
    }

    /** 54: "Returns the number of digits afterwards." */
    private static void lift() {
        String system = "2 prime 5 diagonals 3 2 1 sides 1 -4 probes 5 -6";
        changed("lift", 3, system + " digits 3 values 14 116 residuals -3 -2" + ACCOUNT + " (3 3 0)", TWO,
                ToeplitzLab::lift);
        changed("lift", 1, "1 prime 31 diagonals 1 sides 2 probes 3 digits 1 values 2 residuals 0 account (1 0 1)", ONE,
                ToeplitzLab::lift);
    }

    private static Edge.Making lifted(Edge.Making making, int lifts) {
        return () -> {
            ToeplitzLab lab = making.make();
            for (int k = 0; k < lifts; k++) {
                lab.lift();
            }
            return lab;
        };
    }

    /** 54: "or there are mostDigits() digits": 8 of the prime 31, 39 of the prime 2 */
    private static void liftWithoutRoom() {
        Edge.Making two = Edge.of("toeplitz 1 prime 2;diagonal 0 1;side 0 2");
        Check.same("the last lift", 8, lifted(ONE, 7).make().lift());
        Check.same("the last lift", 39, lifted(two, 38).make().lift());
        Edge.refused("one more", Check.ARGUMENT, lifted(ONE, 8), ToeplitzLab::lift);
        Edge.refused("one more", Check.ARGUMENT, lifted(two, 39), ToeplitzLab::lift);
        ToeplitzLab lab = lifted(ONE, 8).make();
        lab.undo();
        Check.same("the last lift again", 8, lab.lift());
        lab.setSide(0, 2);
        Check.same("there is room when the refinement begins anew", 1, lab.lift());
    }

    /** 54 and 55: "if T is not regular": the same T modulo a prime that divides its determinant, and modulo another */
    private static void notRegular() {
        Edge.refused("lift", Check.ARGUMENT, SINGULAR, ToeplitzLab::lift);
        Edge.refused("refine", Check.ARGUMENT, SINGULAR, lab -> lab.refine(1));
        Edge.refused("refine", Check.ARGUMENT, SINGULAR, lab -> lab.refine(40));
        Edge.refused("refine out of range too", Check.ARGUMENT, SINGULAR, lab -> lab.refine(0));
        for (int prime : new int[] {3, 5, 7}) {
            Edge.Making making = Edge.of("toeplitz 1 prime " + prime + ";diagonal 0 -50;side 0 0");
            if (prime == 5) {
                Edge.refused("lift", Check.ARGUMENT, making, ToeplitzLab::lift);
                Edge.refused("refine, though 0 is the solution", Check.ARGUMENT, making, lab -> lab.refine(1));
            } else {
                Check.same("lift", 1, making.make().lift());
                Check.same("refine", 1, making.make().refine(1));
            }
        }
        Edge.refused("the size 4 is regular, 5 is not", Check.ARGUMENT, Edge.of(MinorTest.JUMP), ToeplitzLab::lift);
        Check.same("no size but the last is regular", 1,
                Check.lab("toeplitz 7 prime 31;diagonal -1 1;diagonal 6 1").lift());
    }

    /** 55: "1 to 40" */
    private static void refineBounds() {
        String system = "2 prime 5 diagonals 3 2 1 sides 1 -4 probes 5 -6 digits ";
        String three = system + "3 values 14 116 residuals -3 -2" + ACCOUNT + " (3 3 0)";
        String four = system + "4 values 14 616 residuals -3 -2" + ACCOUNT + " (3 3 0) (4 3 1)";
        changed("the smallest", 1, three, TWO, lab -> lab.refine(1));
        changed("just enough", 2, four, TWO, lab -> lab.refine(2));
        changed("more than enough", 2, four, TWO, lab -> lab.refine(3));
        changed("the greatest", 2, four, TWO, lab -> lab.refine(40));
        Edge.beyond("refine", Check.ARGUMENT, TWO, 1, 40, ToeplitzLab::refine);
        Edge.beyond("refine when exact", Check.ARGUMENT, lifted(TWO, 2), 1, 40, ToeplitzLab::refine);
    }

    /** 55: "until the fractions are exact, there are mostDigits() digits, or a number of lifts is reached" */
    private static void refineStops() {
        for (int most : new int[] {1, 37, 38, 39, 40}) {
            ToeplitzLab lab = Check.lab(ENDLESS);
            int due = Math.min(most, 39);
            Check.same("refine of an endless one", due, lab.refine(most));
            Check.same("digits", due, lab.digits());
            Check.same("one change", 1, lab.undoable());
            Check.same("undo", 0, lab.undo());
            Check.same("digits", 0, lab.digits());
            Check.same("entries", 0, lab.entries());
        }
        ToeplitzLab parts = Check.lab(ENDLESS);
        Check.same("refine", 38, parts.refine(38));
        Check.same("room for one", 1, parts.refine(2));
        Check.same("no room", 0, parts.refine(2));
        ToeplitzLab zero = Check.lab("toeplitz 7 prime 2;diagonal 0 1");
        Check.same("exact with the first digit", 1, zero.refine(40));
        ToeplitzLab nine = Check.lab("toeplitz 1 prime 3;diagonal 0 1;side 0 9");
        for (int most = 1; most <= 4; most++) {
            Check.same("not exact before the fifth digit", most, nine.refine(most));
            nine.undo();
        }
        Check.same("exact with the fifth digit", 5, nine.refine(6));
    }

    /** 55: "0 if the fractions are exact already": a change without a lift, and without an entry in the account */
    private static void refineWithoutLifts() {
        for (int most : new int[] {1, 40}) {
            same("exact", 0, lifted(TWO, 2), lab -> lab.refine(most));
            same("exact, with a digit more", 0, lifted(TWO, 3), lab -> lab.refine(most));
            same("no room and not exact", 0, () -> {
                ToeplitzLab lab = Check.lab(ENDLESS.replace("prime 2", "prime 31"));
                lab.refine(40);
                return lab;
            }, lab -> lab.refine(most));
        }
    }
}
