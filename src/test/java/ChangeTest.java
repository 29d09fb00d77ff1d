/** Promises 48 to 57: the changes and undo. */
public final class ChangeTest {
    public static void main(String[] args) {
        none();
        setting();
        beginningAnew();
        primes();
        growing();
        shrinking();
        lifting();
        refining();
        undoing();
        eightChanges();
        afterLoad();
        failing();
        Check.finish();
    }

    private static void none() {
        ToeplitzLab lab = new ToeplitzLab();
        Check.throwing("setDiagonal", Check.STATE, () -> lab.setDiagonal(99, 99));
        Check.throwing("setSide", Check.STATE, () -> lab.setSide(99, 9999));
        Check.throwing("setProbe", Check.STATE, () -> lab.setProbe(99, 9999));
        Check.throwing("setPrime", Check.STATE, () -> lab.setPrime(4));
        Check.throwing("grow", Check.STATE, () -> lab.grow(99, 99, 9999));
        Check.throwing("shrink", Check.STATE, lab::shrink);
        Check.throwing("lift", Check.STATE, lab::lift);
        Check.throwing("refine", Check.STATE, () -> lab.refine(0));
        Check.throwing("undo", Check.STATE, lab::undo);
        Check.same("undoable", 0, lab.undoable());
    }

    private static void setting() {
        ToeplitzLab lab = Check.lab(MinorTest.REGULAR);
        Check.same("setDiagonal", 4, lab.setDiagonal(2, -50));
        Check.same("setDiagonal", 1, lab.setDiagonal(-2, 50));
        Check.same("setDiagonal", 2, lab.setDiagonal(0, 0));
        Check.same("setSide", -2, lab.setSide(1, 999));
        Check.same("setSide", 3, lab.setSide(2, -999));
        Check.same("setProbe", 3, lab.setProbe(2, 999));
        Check.same("setProbe", 999, lab.setProbe(2, -999));
        Check.same("setDiagonal to the same value", -50, lab.setDiagonal(2, -50));
        Check.same("all of them are changes", 8, lab.undoable());
        Check.same("state", "3 prime 7 diagonals 50 3 0 1 -50 sides 1 999 -999 probes 1 -2 -999 "
                + "digits 0 values 0 0 0 residuals 1 999 -999 account", Check.state(lab));
    }

    private static void beginningAnew() {
        ToeplitzLab lab = Check.lab(RefinementTest.SMALL);
        String before = Check.state(lab);
        refined(lab);
        lab.setProbe(0, 7);
        Check.same("setProbe keeps the digits", 4, lab.digits());
        Check.same("setProbe keeps the fractions", true, lab.isExact());
        lab.setProbe(0, 0);
        lab.setDiagonal(1, 1);
        Check.same("setDiagonal to the same value", before, withoutAccount(lab));
        refined(lab);
        lab.setSide(1, -4);
        Check.same("setSide to the same value", before, withoutAccount(lab));
        refined(lab);
        lab.setPrime(5);
        Check.same("setPrime to the same value", before, withoutAccount(lab));
        refined(lab);
        lab.grow(0, 0, 0);
        Check.same("grow", "0 0 0 0", lab.digits() + " " + Check.row(3, lab::value));
        lab.shrink();
        Check.same("grow and shrink", before, withoutAccount(lab));
        refined(lab);
        lab.shrink();
        Check.same("shrink", "0 0", lab.digits() + " " + lab.value(0));
        Check.same("shrink", 1, lab.residual(0));
    }

    private static void refined(ToeplitzLab lab) {
        Check.same("refine", 4, lab.refine(40));
    }

    private static String withoutAccount(ToeplitzLab lab) {
        String state = Check.state(lab);
        return state.substring(0, state.indexOf("account") + 7);
    }

    private static void primes() {
        ToeplitzLab lab = Check.lab(MinorTest.REGULAR);
        Check.same("setPrime", 7, lab.setPrime(5));
        Check.same("prime", 5, lab.prime());
        Check.same("not regular modulo 5", false, lab.isRegular());
        Check.same("setPrime", 5, lab.setPrime(31));
        Check.same("setPrime", 31, lab.setPrime(2));
        for (int prime : new int[] {-2, 0, 1, 4, 6, 9, 25, 37, Integer.MIN_VALUE, Integer.MAX_VALUE}) {
            Check.throwing("setPrime " + prime, Check.ARGUMENT, () -> lab.setPrime(prime));
        }
        Check.same("prime", 2, lab.prime());
    }

    private static void growing() {
        ToeplitzLab lab = Check.lab("toeplitz 1 prime 5;diagonal 0 1;side 0 2;probe 0 3");
        Check.same("grow", 2, lab.grow(4, -5, 6));
        Check.same("state", "2 prime 5 diagonals -5 1 4 sides 2 6 probes 3 0 digits 0 values 0 0 residuals 2 6 account",
                Check.state(lab));
        lab.setProbe(1, 9);
        lab.shrink();
        Check.same("grow", 2, lab.grow(50, 50, 999));
        Check.same("the new probe is 0 again", 0, lab.probe(1));
        Check.same("diagonals", "50 1 50", Check.row(3, k -> lab.diagonal(k - 1)));
        Check.throwing("below", Check.ARGUMENT, () -> lab.grow(51, 0, 0));
        Check.throwing("below", Check.ARGUMENT, () -> lab.grow(-51, 0, 0));
        Check.throwing("above", Check.ARGUMENT, () -> lab.grow(0, 51, 0));
        Check.throwing("above", Check.ARGUMENT, () -> lab.grow(0, -51, 0));
        Check.throwing("part", Check.ARGUMENT, () -> lab.grow(0, 0, 1000));
        Check.throwing("part", Check.ARGUMENT, () -> lab.grow(0, 0, -1000));
        for (int size = 3; size <= 7; size++) {
            Check.same("grow", size, lab.grow(-50, -50, -999));
        }
        Check.throwing("an eighth row", Check.ARGUMENT, () -> lab.grow(0, 0, 0));
        Check.same("diagonal 6", -50, lab.diagonal(6));
        Check.same("diagonal -6", -50, lab.diagonal(-6));
        Check.same("side", -999, lab.side(6));
    }

    private static void shrinking() {
        ToeplitzLab lab = Check.lab(MinorTest.REGULAR);
        Check.same("shrink", 2, lab.shrink());
        Check.same("state", "2 prime 7 diagonals 3 2 1 sides 1 -2 probes 1 -2 digits 0 values 0 0 "
                + "residuals 1 -2 account", Check.state(lab));
        Check.throwing("the diagonal that is gone", Check.INDEX, () -> lab.diagonal(2));
        Check.same("shrink", 1, lab.shrink());
        Check.throwing("shrink", Check.ARGUMENT, lab::shrink);
        Check.same("undo", 1, lab.undo());
        Check.same("undo", 0, lab.undo());
        Check.same("all is back", "1 3 2 1 4", Check.row(5, k -> lab.diagonal(k - 2)));
    }

    private static void lifting() {
        ToeplitzLab lab = Check.lab(RefinementTest.SMALL);
        Check.same("lift", 1, lab.lift());
        Check.same("lift", 2, lab.lift());
        Check.same("two changes", 2, lab.undoable());
        Check.same("undo", 1, lab.undo());
        Check.same("value", "4 1", Check.row(2, lab::value));
        Check.same("residual", "-2 -2", Check.row(2, lab::residual));
        Check.same("entries", 1, lab.entries());
        Check.same("lift again", 2, lab.lift());
        Check.same("value", "14 16", Check.row(2, lab::value));
        Check.throwing("not regular", Check.ARGUMENT, () -> Check.lab(MinorTest.JUMP).lift());
    }

    private static void refining() {
        ToeplitzLab lab = Check.lab(RefinementTest.SMALL);
        for (int most : new int[] {0, 41, -1, Integer.MIN_VALUE, Integer.MAX_VALUE}) {
            Check.throwing("refine " + most, Check.ARGUMENT, () -> lab.refine(most));
        }
        Check.same("refine", 1, lab.refine(1));
        Check.same("refine", 2, lab.refine(2));
        Check.same("refine until exact", 1, lab.refine(40));
        Check.same("refine when exact", 0, lab.refine(1));
        Check.same("each one change", 4, lab.undoable());
        Check.same("digits", 4, lab.digits());
        lab.undo();
        Check.same("the change without a lift", 4, lab.digits());
        lab.undo();
        lab.undo();
        Check.same("two lifts at once", 1, lab.digits());
        Check.same("their entries too", 1, lab.entries());
        ToeplitzLab apart = Check.lab(RefinementTest.APART + ";side 1 1");
        Check.same("until there is no room", 8, apart.refine(9));
        Check.same("no room and not exact", 0, apart.refine(40));
        Check.same("is a change too", 2, apart.undoable());
        Check.throwing("not regular", Check.ARGUMENT, () -> Check.lab(MinorTest.JUMP).refine(1));
        // Beyond the first exact digits a refinement has nothing to do, even where fractions get lost again.
        ToeplitzLab nine = Check.lab("toeplitz 1 prime 3;diagonal 0 1;side 0 9");
        Check.same("9 needs five digits", 5, nine.refine(40));
    }

    private static void undoing() {
        ToeplitzLab lab = Check.lab(RefinementTest.SMALL);
        String[] states = new String[9];
        states[0] = Check.state(lab);
        lab.lift();
        states[1] = Check.state(lab);
        lab.setProbe(1, 5);
        states[2] = Check.state(lab);
        lab.refine(40);
        states[3] = Check.state(lab);
        lab.setDiagonal(-1, 7);
        states[4] = Check.state(lab);
        lab.grow(1, 2, 3);
        states[5] = Check.state(lab);
        lab.setPrime(13);
        states[6] = Check.state(lab);
        lab.setSide(2, 4);
        states[7] = Check.state(lab);
        lab.shrink();
        for (int left = 7; left >= 0; left--) {
            Check.same("undo", left, lab.undo());
            Check.same("state " + left, states[left], Check.state(lab));
            Check.same("undoable", left, lab.undoable());
        }
        Check.throwing("undo", Check.STATE, lab::undo);
    }

    private static void eightChanges() {
        ToeplitzLab lab = Check.lab("toeplitz 1 prime 2");
        for (int k = 1; k <= 11; k++) {
            lab.setProbe(0, k);
            Check.same("undoable", Math.min(k, 8), lab.undoable());
        }
        lab.undo();
        lab.undo();
        lab.setProbe(0, 100);
        Check.same("undoable", 7, lab.undoable());
        Check.same("undo", 6, lab.undo());
        Check.same("probe", 9, lab.probe(0));
        for (int left = 5; left >= 0; left--) {
            Check.same("undo", left, lab.undo());
        }
        Check.same("the state before the oldest change that is kept", 3, lab.probe(0));
        Check.throwing("undo", Check.STATE, lab::undo);
    }

    private static void afterLoad() {
        ToeplitzLab lab = Check.lab("toeplitz 1 prime 2");
        lab.setProbe(0, 1);
        lab.load(Check.put(lab, "toeplitz 1 prime 2"));
        Check.same("undoable", 0, lab.undoable());
        Check.throwing("undo", Check.STATE, lab::undo);
        lab.setProbe(0, 1);
        int length = Check.put(lab, "toeplitz");
        Check.throwing("load", Check.ARGUMENT, () -> lab.load(length));
        Check.same("undoable after a text with an error", 1, lab.undoable());
        Check.same("undo", 0, lab.undo());
        Check.same("probe", 0, lab.probe(0));
    }

    /** A call that throws changes nothing; the exception that is listed first is thrown. */
    private static void failing() {
        ToeplitzLab lab = Check.lab(RefinementTest.SMALL);
        lab.lift();
        String before = Check.state(lab);
        for (int i : new int[] {-1, 2, Integer.MIN_VALUE, Integer.MAX_VALUE}) {
            Check.throwing("setSide " + i, Check.INDEX, () -> lab.setSide(i, 0));
            Check.throwing("setSide of both", Check.INDEX, () -> lab.setSide(i, 1000));
            Check.throwing("setProbe " + i, Check.INDEX, () -> lab.setProbe(i, 0));
            Check.throwing("setProbe of both", Check.INDEX, () -> lab.setProbe(i, 1000));
        }
        for (int k : new int[] {-2, 2, Integer.MIN_VALUE, Integer.MAX_VALUE}) {
            Check.throwing("setDiagonal " + k, Check.INDEX, () -> lab.setDiagonal(k, 0));
            Check.throwing("setDiagonal of both", Check.INDEX, () -> lab.setDiagonal(k, 51));
        }
        for (int value : new int[] {-1000, 1000, Integer.MIN_VALUE, Integer.MAX_VALUE}) {
            Check.throwing("setSide to " + value, Check.ARGUMENT, () -> lab.setSide(0, value));
            Check.throwing("setProbe to " + value, Check.ARGUMENT, () -> lab.setProbe(0, value));
            Check.throwing("grow by " + value, Check.ARGUMENT, () -> lab.grow(0, 0, value));
        }
        for (int value : new int[] {-51, 51, Integer.MIN_VALUE, Integer.MAX_VALUE}) {
            Check.throwing("setDiagonal to " + value, Check.ARGUMENT, () -> lab.setDiagonal(0, value));
            Check.throwing("grow by " + value, Check.ARGUMENT, () -> lab.grow(value, 0, 0));
            Check.throwing("grow by " + value, Check.ARGUMENT, () -> lab.grow(0, value, 0));
        }
        Check.throwing("setPrime", Check.ARGUMENT, () -> lab.setPrime(4));
        Check.throwing("refine", Check.ARGUMENT, () -> lab.refine(0));
        Check.throwing("restore", Check.STATE, () -> lab.restore(0));
        Check.throwing("save", Check.INDEX, () -> lab.save(2));
        Check.same("state", before, Check.state(lab));
        Check.same("undoable", 1, lab.undoable());
    }
}
