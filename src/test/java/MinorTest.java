/** Promises 13 to 21: minors, the rank, steps, regularPrimes and minorIf. */
public final class MinorTest {
    /** Rows 2 3 1, 1 2 3, 4 1 2 with the determinants 2, 1 and 25. */
    static final String REGULAR = "toeplitz 3 prime 7;diagonal 0 2;diagonal 1 1;diagonal 2 4;diagonal -1 3;"
            + "diagonal -2 1;side 0 1;side 1 -2;side 2 3;probe 0 1;probe 1 -2;probe 2 3";
    /** Ones two places beside the main diagonal: the sizes 0 and 4 are regular, 1, 2, 3 and 5 are not. */
    static final String JUMP = "toeplitz 5 prime 5;diagonal 2 1;diagonal -2 1";

    public static void main(String[] args) {
        none();
        regular();
        greatest();
        jump();
        singular();
        swaps();
        otherPrimes();
        otherDiagonals();
        wrongArguments();
        Check.finish();
    }

    private static void none() {
        ToeplitzLab lab = new ToeplitzLab();
        Check.throwing("minor", Check.STATE, () -> lab.minor(-1));
        Check.throwing("rank", Check.STATE, lab::rank);
        Check.throwing("isRegular", Check.STATE, lab::isRegular);
        Check.throwing("steps", Check.STATE, lab::steps);
        Check.throwing("stepEnd", Check.STATE, () -> lab.stepEnd(-1));
        Check.throwing("longestJump", Check.STATE, lab::longestJump);
        Check.throwing("tail", Check.STATE, lab::tail);
        Check.throwing("regularPrimes", Check.STATE, lab::regularPrimes);
        Check.throwing("minorIf", Check.STATE, () -> lab.minorIf(-9, 99, 99));
    }

    private static void regular() {
        ToeplitzLab lab = Check.lab(REGULAR);
        Check.same("minors", "1 2 1 4", Check.row(4, lab::minor));
        Check.same("rank", 3, lab.rank());
        Check.same("isRegular", true, lab.isRegular());
        Check.same("steps", 3, lab.steps());
        Check.same("stepEnd", "0 1 2 3", Check.row(4, lab::stepEnd));
        Check.same("longestJump", 1, lab.longestJump());
        Check.same("tail", 0, lab.tail());
        Check.same("all primes but 5", 2043, lab.regularPrimes());
    }

    private static void greatest() {
        ToeplitzLab lab = Check.lab("toeplitz 7 prime 3;diagonal 0 2");
        Check.same("minors", "1 2 1 2 1 2 1 2", Check.row(8, lab::minor));
        Check.same("rank", 7, lab.rank());
        Check.same("steps", 7, lab.steps());
        Check.same("stepEnd", "0 1 2 3 4 5 6 7", Check.row(8, lab::stepEnd));
        Check.same("tail", 0, lab.tail());
    }

    private static void jump() {
        ToeplitzLab lab = Check.lab(JUMP);
        Check.same("minors", "1 0 0 0 1 0", Check.row(6, lab::minor));
        Check.same("rank", 4, lab.rank());
        Check.same("isRegular", false, lab.isRegular());
        Check.same("steps", 1, lab.steps());
        Check.same("stepEnd", "0 4", Check.row(2, lab::stepEnd));
        Check.same("longestJump", 4, lab.longestJump());
        Check.same("tail", 1, lab.tail());
        Check.same("regularPrimes", 0, lab.regularPrimes());
        Check.throwing("stepEnd(2)", Check.INDEX, () -> lab.stepEnd(2));
        // A rank that no leading block shows: ones in the last entry of the first row alone.
        ToeplitzLab corner = Check.lab("toeplitz 4 prime 3;diagonal -3 1;diagonal -2 1");
        Check.same("rank", 2, corner.rank());
        Check.same("steps", 0, corner.steps());
        Check.same("tail", 4, corner.tail());
        // Jumps of different lengths, the longest not the last: 2, then 1.
        ToeplitzLab two = Check.lab("toeplitz 3 prime 5;band -1 -1 1;diagonal 1 1;diagonal -2 2;diagonal 2 2");
        Check.same("minors", "1 0 4 4", Check.row(4, two::minor));
        Check.same("stepEnd", "0 2 3", Check.row(3, two::stepEnd));
        Check.same("longestJump", 2, two.longestJump());
        Check.same("steps", 2, two.steps());
    }

    private static void singular() {
        ToeplitzLab lab = Check.lab("toeplitz 7 prime 2;band -6 6 2");
        Check.same("minors", "1 0 0 0 0 0 0 0", Check.row(8, lab::minor));
        Check.same("rank", 0, lab.rank());
        Check.same("steps", 0, lab.steps());
        Check.same("longestJump", 0, lab.longestJump());
        Check.same("tail", 7, lab.tail());
        lab.setPrime(3);
        Check.same("minors of equal entries", "1 2 0 0 0 0 0 0", Check.row(8, lab::minor));
        Check.same("rank", 1, lab.rank());
        Check.same("tail", 6, lab.tail());
    }

    /** A cycle of the columns: its sign changes with each size. */
    private static void swaps() {
        ToeplitzLab lab = Check.lab("toeplitz 2 prime 31;diagonal 1 1;diagonal -1 1");
        Check.same("a swap", 30, lab.minor(2));
        lab.setDiagonal(-1, 0);
        lab.grow(0, 1, 0);
        Check.same("a cycle of three", "1 0 0 1", Check.row(4, lab::minor));
        lab.setDiagonal(-2, 0);
        lab.grow(0, 1, 0);
        Check.same("a cycle of four", 30, lab.minor(4));
        lab.setDiagonal(1, -50);
        Check.same("the cube of -50, with a sign", Math.floorMod(125000, 31), lab.minor(4));
    }

    private static void otherPrimes() {
        Check.same("all", 2047, Check.lab("toeplitz 7 prime 2;diagonal 0 1").regularPrimes());
        Check.same("a determinant of 30", 2047 - 7, Check.lab("toeplitz 1 prime 2;diagonal 0 30").regularPrimes());
        Check.same("a determinant of -31", 1023, Check.lab("toeplitz 1 prime 2;diagonal 0 -31").regularPrimes());
        Check.same("a determinant of 46", 2047 - 257, Check.lab("toeplitz 1 prime 2;diagonal 0 46").regularPrimes());
        ToeplitzLab lab = Check.lab("toeplitz 1 prime 2;diagonal 0 46");
        lab.regularPrimes();
        Check.same("the prime stays", 2, lab.prime());
        Check.same("and the answers with it", 0, lab.minor(1));
    }

    private static void otherDiagonals() {
        ToeplitzLab lab = Check.lab(REGULAR);
        Check.same("minorIf(0, 0, 2)", 4, lab.minorIf(0, 0, 2));
        Check.same("minorIf(1, -50, 2)", 0, lab.minorIf(1, -50, 2));
        Check.same("minorIf(0, 50, 1)", 1, lab.minorIf(0, 50, 1));
        Check.same("minorIf(-1, 0, 3)", 1, lab.minorIf(-1, 0, 3));
        Check.same("a diagonal outside the block", 1, lab.minorIf(2, 9, 2));
        Check.same("the size 0", 1, lab.minorIf(0, 0, 0));
        Check.same("nothing is changed", "1 2 1 4", Check.row(4, lab::minor));
        Check.same("no change to undo", 0, lab.undoable());
    }

    private static void wrongArguments() {
        ToeplitzLab lab = Check.lab(REGULAR);
        for (int k : new int[] {-1, 4, Integer.MIN_VALUE, Integer.MAX_VALUE}) {
            Check.throwing("minor " + k, Check.INDEX, () -> lab.minor(k));
            Check.throwing("stepEnd " + k, Check.INDEX, () -> lab.stepEnd(k));
            Check.throwing("minorIf, size " + k, Check.INDEX, () -> lab.minorIf(0, 0, k));
        }
        Check.throwing("minorIf, diagonal 3", Check.INDEX, () -> lab.minorIf(3, 0, 0));
        Check.throwing("minorIf, diagonal -3", Check.INDEX, () -> lab.minorIf(-3, 0, 0));
        Check.throwing("minorIf, diagonal and value", Check.INDEX, () -> lab.minorIf(3, 51, 0));
        Check.throwing("minorIf, size and value", Check.INDEX, () -> lab.minorIf(0, 51, 4));
        Check.throwing("minorIf, value 51", Check.ARGUMENT, () -> lab.minorIf(0, 51, 0));
        Check.throwing("minorIf, value -51", Check.ARGUMENT, () -> lab.minorIf(0, -51, 0));
    }
}
