/** Promises 7 to 12: size, prime, diagonal, entry, side and probe. */
public final class SystemTest {
    public static void main(String[] args) {
        none();
        told();
        greatest();
        untold();
        wrongArguments();
        Check.finish();
    }

    private static void none() {
        ToeplitzLab lab = new ToeplitzLab();
        Check.same("size", 0, lab.size());
        Check.same("prime", 0, lab.prime());
        Check.throwing("diagonal", Check.STATE, () -> lab.diagonal(99));
        Check.throwing("entry", Check.STATE, () -> lab.entry(-1, 99));
        Check.throwing("side", Check.STATE, () -> lab.side(-1));
        Check.throwing("probe", Check.STATE, () -> lab.probe(-1));
    }

    private static void told() {
        ToeplitzLab lab = Check.lab("toeplitz 3 prime 11;diagonal 0 2;diagonal 1 -7;diagonal 2 4;band -2 -1 13;"
                + "side 0 1;side 1 -999;side 2 7;probe 0 -5;probe 2 999");
        Check.same("size", 3, lab.size());
        Check.same("prime", 11, lab.prime());
        Check.same("diagonals", "13 13 2 -7 4", Check.row(5, k -> lab.diagonal(k - 2)));
        Check.same("row 0", "2 13 13", Check.row(3, j -> lab.entry(0, j)));
        Check.same("row 1", "-7 2 13", Check.row(3, j -> lab.entry(1, j)));
        Check.same("row 2", "4 -7 2", Check.row(3, j -> lab.entry(2, j)));
        Check.same("sides", "1 -999 7", Check.row(3, lab::side));
        Check.same("probes", "-5 0 999", Check.row(3, lab::probe));
    }

    private static void greatest() {
        ToeplitzLab lab = Check.lab("toeplitz 7 prime 31;diagonal 6 50;diagonal -6 -50;side 6 3;probe 6 4");
        Check.same("diagonal 6", 50, lab.diagonal(6));
        Check.same("diagonal -6", -50, lab.diagonal(-6));
        Check.same("the last entry of the first column", 50, lab.entry(6, 0));
        Check.same("the last entry of the first row", -50, lab.entry(0, 6));
        Check.same("side", 3, lab.side(6));
        Check.same("probe", 4, lab.probe(6));
        Check.throwing("diagonal 7", Check.INDEX, () -> lab.diagonal(7));
        Check.throwing("diagonal -7", Check.INDEX, () -> lab.diagonal(-7));
    }

    private static void untold() {
        ToeplitzLab lab = Check.lab("toeplitz 2 prime 2");
        Check.same("state", "2 prime 2 diagonals 0 0 0 sides 0 0 probes 0 0 digits 0 values 0 0 residuals 0 0 account",
                Check.state(lab));
    }

    private static void wrongArguments() {
        ToeplitzLab lab = Check.lab("toeplitz 3 prime 11");
        for (int i : new int[] {-1, 3, 7, Integer.MIN_VALUE, Integer.MAX_VALUE}) {
            Check.throwing("entry(" + i + ", 0)", Check.INDEX, () -> lab.entry(i, 0));
            Check.throwing("entry(0, " + i + ")", Check.INDEX, () -> lab.entry(0, i));
            Check.throwing("entry of both", Check.INDEX, () -> lab.entry(i, i));
            Check.throwing("side " + i, Check.INDEX, () -> lab.side(i));
            Check.throwing("probe " + i, Check.INDEX, () -> lab.probe(i));
        }
        for (int k : new int[] {-3, 3, Integer.MIN_VALUE, Integer.MAX_VALUE}) {
            Check.throwing("diagonal " + k, Check.INDEX, () -> lab.diagonal(k));
        }
    }
}
