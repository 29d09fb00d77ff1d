/** Promises 22 to 26: Schur complements, displacements and generators. */
public final class SchurTest {
    public static void main(String[] args) {
        none();
        complements();
        displacements();
        generators();
        behindJump();
        negativeEntries();
        ranks();
        wrongArguments();
        Check.finish();
    }

    private static void none() {
        ToeplitzLab lab = new ToeplitzLab();
        Check.throwing("schur", Check.STATE, () -> lab.schur(-1, 9, 9));
        Check.throwing("displacement", Check.STATE, () -> lab.displacement(-1, 9, 9));
        Check.throwing("generators", Check.STATE, () -> lab.generators(-1));
        Check.throwing("generator", Check.STATE, () -> lab.generator(-1, -1, -1, true));
        Check.throwing("mostGenerators", Check.STATE, lab::mostGenerators);
    }

    private static void complements() {
        ToeplitzLab lab = Check.lab(MinorTest.REGULAR);
        Check.same("step 0, row 0", "2 3 1", Check.row(3, j -> lab.schur(0, 0, j)));
        Check.same("step 0, row 2", "4 1 2", Check.row(3, j -> lab.schur(0, 2, j)));
        Check.same("step 1, row 1", "4 6", Check.row(2, j -> lab.schur(1, 1, j + 1)));
        Check.same("step 1, row 2", "2 0", Check.row(2, j -> lab.schur(1, 2, j + 1)));
        Check.same("step 2", 4, lab.schur(2, 2, 2));
    }

    private static void displacements() {
        ToeplitzLab lab = Check.lab(MinorTest.REGULAR);
        Check.same("step 0, row 0", "2 3 1", Check.row(3, j -> lab.displacement(0, 0, j)));
        Check.same("step 0, row 1", "1 0 0", Check.row(3, j -> lab.displacement(0, 1, j)));
        Check.same("step 0, row 2", "4 0 0", Check.row(3, j -> lab.displacement(0, 2, j)));
        Check.same("step 1, row 1", "4 6", Check.row(2, j -> lab.displacement(1, 1, j + 1)));
        Check.same("step 1, row 2", "2 3", Check.row(2, j -> lab.displacement(1, 2, j + 1)));
        Check.same("step 2", 4, lab.displacement(2, 2, 2));
    }

    private static void generators() {
        ToeplitzLab lab = Check.lab(MinorTest.REGULAR);
        Check.same("generators", "2 1 1 0", Check.row(4, lab::generators));
        Check.same("step 0, pair 0, left", "1 4 2", Check.row(3, i -> lab.generator(0, 0, i, false)));
        Check.same("step 0, pair 0, right", "2 3 1", Check.row(3, i -> lab.generator(0, 0, i, true)));
        Check.same("step 0, pair 1, left", "0 1 4", Check.row(3, i -> lab.generator(0, 1, i, false)));
        Check.same("step 0, pair 1, right", "0 2 3", Check.row(3, i -> lab.generator(0, 1, i, true)));
        Check.same("step 1, left", "1 4", Check.row(2, i -> lab.generator(1, 0, i + 1, false)));
        Check.same("step 1, right", "4 6", Check.row(2, i -> lab.generator(1, 0, i + 1, true)));
        Check.same("step 2, left", 1, lab.generator(2, 0, 2, false));
        Check.same("step 2, right", 4, lab.generator(2, 0, 2, true));
        Check.same("mostGenerators", 2, lab.mostGenerators());
        // The first entry of the displacement is 0, so the first pair begins in its second column.
        ToeplitzLab hollow = Check.lab("toeplitz 2 prime 5;diagonal 1 3;diagonal -1 2");
        Check.same("pairs", 2, hollow.generators(0));
        Check.same("left", "1 0", Check.row(2, i -> hollow.generator(0, 0, i, false)));
        Check.same("right", "0 2", Check.row(2, i -> hollow.generator(0, 0, i, true)));
        Check.same("left", "0 1", Check.row(2, i -> hollow.generator(0, 1, i, false)));
        Check.same("right", "3 0", Check.row(2, i -> hollow.generator(0, 1, i, true)));
    }

    /** The block of four rows has rows of its own as pivots, in another order than they stand. */
    private static void behindJump() {
        ToeplitzLab lab = Check.lab(MinorTest.JUMP);
        Check.same("schur", 0, lab.schur(1, 4, 4));
        Check.same("generators", "2 0", Check.row(2, lab::generators));
        lab.setDiagonal(0, 5);
        Check.same("still the same modulo 5", 0, lab.schur(1, 4, 4));
        lab.setDiagonal(-4, 3);
        // C * inverse of A * B: A takes the column (3, 0, 1, 0) to (1, 0, 3, 0), the row is (0, 0, 1, 0).
        Check.same("schur", 2, lab.schur(1, 4, 4));
        Check.same("displacement", 2, lab.displacement(1, 4, 4));
        Check.same("pair", "1 2", lab.generator(1, 0, 4, false) + " " + lab.generator(1, 0, 4, true));
        Check.throwing("a row of the block", Check.INDEX, () -> lab.schur(1, 3, 4));
        Check.throwing("a column of the block", Check.INDEX, () -> lab.displacement(1, 4, 3));
        Check.throwing("a component of the block", Check.INDEX, () -> lab.generator(1, 0, 3, true));
    }

    private static void negativeEntries() {
        ToeplitzLab lab = Check.lab("toeplitz 2 prime 5;diagonal 0 -1;diagonal 1 -7;diagonal -1 50");
        Check.same("modulo the prime", "4 0 3 4", Check.row(4, k -> lab.schur(0, k / 2, k % 2)));
        Check.same("modulo the prime", "4 0 3 0", Check.row(4, k -> lab.displacement(0, k / 2, k % 2)));
    }

    private static void ranks() {
        ToeplitzLab zero = Check.lab("toeplitz 4 prime 3;band -3 3 -3");
        Check.same("no generators", 0, zero.generators(0));
        Check.same("mostGenerators", 0, zero.mostGenerators());
        Check.throwing("no pair", Check.INDEX, () -> zero.generator(0, 0, 0, true));
        ToeplitzLab one = Check.lab("toeplitz 4 prime 3;diagonal -3 1");
        Check.same("one pair", 1, one.mostGenerators());
        Check.same("its right vector", "0 0 0 1", Check.row(4, i -> one.generator(0, 0, i, true)));
        Check.same("its left vector", "1 0 0 0", Check.row(4, i -> one.generator(0, 0, i, false)));
    }

    private static void wrongArguments() {
        ToeplitzLab lab = Check.lab(MinorTest.REGULAR);
        for (int step : new int[] {-1, 4, Integer.MIN_VALUE, Integer.MAX_VALUE}) {
            Check.throwing("schur " + step, Check.INDEX, () -> lab.schur(step, 2, 2));
            Check.throwing("displacement " + step, Check.INDEX, () -> lab.displacement(step, 2, 2));
            Check.throwing("generators " + step, Check.INDEX, () -> lab.generators(step));
            Check.throwing("generator " + step, Check.INDEX, () -> lab.generator(step, 0, 2, true));
        }
        for (int i : new int[] {-1, 0, 3, Integer.MIN_VALUE, Integer.MAX_VALUE}) {
            Check.throwing("schur, row " + i, Check.INDEX, () -> lab.schur(1, i, 2));
            Check.throwing("schur, column " + i, Check.INDEX, () -> lab.schur(1, 2, i));
            Check.throwing("displacement, row " + i, Check.INDEX, () -> lab.displacement(1, i, 2));
            Check.throwing("displacement, column " + i, Check.INDEX, () -> lab.displacement(1, 2, i));
            Check.throwing("generator, left " + i, Check.INDEX, () -> lab.generator(1, 0, i, false));
            Check.throwing("generator, right " + i, Check.INDEX, () -> lab.generator(1, 0, i, true));
        }
        for (int pair : new int[] {-1, 2, 7, Integer.MIN_VALUE, Integer.MAX_VALUE}) {
            Check.throwing("generator, pair " + pair, Check.INDEX, () -> lab.generator(0, pair, 0, true));
        }
        Check.throwing("behind the last step there is no row", Check.INDEX, () -> lab.schur(3, 2, 2));
        Check.throwing("behind the last step there is no row", Check.INDEX, () -> lab.schur(3, 3, 3));
    }
}
