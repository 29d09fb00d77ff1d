/** Promises 27 to 30: solution, inverse, kernel and isSolvable. */
public final class ModularTest {
    public static void main(String[] args) {
        none();
        regular();
        kernels();
        solvable();
        wrongArguments();
        Check.finish();
    }

    private static void none() {
        ToeplitzLab lab = new ToeplitzLab();
        Check.throwing("solution", Check.STATE, () -> lab.solution(-1));
        Check.throwing("inverse", Check.STATE, () -> lab.inverse(-1, -1));
        Check.throwing("kernel", Check.STATE, () -> lab.kernel(-1));
        Check.throwing("isSolvable", Check.STATE, lab::isSolvable);
    }

    private static void regular() {
        ToeplitzLab lab = Check.lab(MinorTest.REGULAR);
        Check.same("solution", "1 4 1", Check.row(3, lab::solution));
        Check.same("inverse, row 0", "2 4 0", Check.row(3, j -> lab.inverse(0, j)));
        Check.same("inverse, row 1", "6 0 4", Check.row(3, j -> lab.inverse(1, j)));
        Check.same("inverse, row 2", "0 6 2", Check.row(3, j -> lab.inverse(2, j)));
        Check.same("isSolvable", true, lab.isSolvable());
        ToeplitzLab seven = Check.lab("toeplitz 7 prime 5;diagonal 0 1;diagonal 1 -1;side 0 1;side 6 1");
        Check.same("the sums of the sides", "1 1 1 1 1 1 2", Check.row(7, seven::solution));
        Check.same("ones below", "1 1 1 1 1 1 1", Check.row(7, j -> seven.inverse(6, j)));
        Check.same("isSolvable", true, seven.isSolvable());
        ToeplitzLab hollow = Check.lab("toeplitz 2 prime 5;diagonal 1 3;diagonal -1 2;side 0 -1;side 1 1");
        Check.same("solution with rows swapped", "2 2", Check.row(2, hollow::solution));
        Check.same("inverse with rows swapped", "0 2 3 0", Check.row(4, k -> hollow.inverse(k / 2, k % 2)));
    }

    private static void kernels() {
        ToeplitzLab jump = Check.lab(MinorTest.JUMP);
        Check.same("kernel", "4 0 0 0 1", Check.row(5, jump::kernel));
        ToeplitzLab zero = Check.lab("toeplitz 3 prime 2");
        Check.same("the first unit vector", "1 0 0", Check.row(3, zero::kernel));
        ToeplitzLab equal = Check.lab("toeplitz 3 prime 7;band -2 2 3");
        Check.same("the smallest last component", "6 1 0", Check.row(3, equal::kernel));
        // Column 2 is 2 * column 0 - 3 * column 1, which are independent (rows 1 1 -1, 2 1 1, 0 2 1).
        ToeplitzLab third = Check.lab("toeplitz 3 prime 7;diagonal 0 1;diagonal 1 2;diagonal -1 1;diagonal -2 -1");
        Check.same("a column that the others make", "5 3 1", Check.row(3, third::kernel));
        // A column of zeros behind an independent one.
        ToeplitzLab hidden = Check.lab("toeplitz 3 prime 3;diagonal 2 1");
        Check.same("a column of zeros", "0 1 0", Check.row(3, hidden::kernel));
    }

    private static void solvable() {
        ToeplitzLab lab = Check.lab("toeplitz 2 prime 3;band -1 1 1;side 0 2;side 1 -1");
        Check.same("equal sides modulo 3", true, lab.isSolvable());
        Check.throwing("but not regular", Check.ARGUMENT, () -> lab.solution(0));
        lab.setSide(1, 1);
        Check.same("different sides", false, lab.isSolvable());
        lab.setPrime(2);
        Check.same("modulo 2 they differ too", false, lab.isSolvable());
        ToeplitzLab zero = Check.lab("toeplitz 3 prime 5;side 2 5");
        Check.same("zeros", true, zero.isSolvable());
        zero.setSide(0, 1);
        Check.same("zeros with a side", false, zero.isSolvable());
        ToeplitzLab jump = Check.lab(MinorTest.JUMP + ";side 0 3;side 4 3;side 1 1");
        Check.same("rows 0 and 4 are the same", true, jump.isSolvable());
        jump.setSide(4, 4);
        Check.same("with other sides", false, jump.isSolvable());
    }

    private static void wrongArguments() {
        ToeplitzLab lab = Check.lab(MinorTest.REGULAR);
        ToeplitzLab jump = Check.lab(MinorTest.JUMP);
        for (int i : new int[] {-1, 5, 7, Integer.MIN_VALUE, Integer.MAX_VALUE}) {
            Check.throwing("solution " + i, Check.INDEX, () -> lab.solution(i));
            Check.throwing("inverse, row " + i, Check.INDEX, () -> lab.inverse(i, 0));
            Check.throwing("inverse, column " + i, Check.INDEX, () -> lab.inverse(0, i));
            Check.throwing("kernel " + i, Check.INDEX, () -> jump.kernel(i));
            Check.throwing("solution, not regular", Check.INDEX, () -> jump.solution(i));
            Check.throwing("inverse, not regular", Check.INDEX, () -> jump.inverse(0, i));
            Check.throwing("kernel, regular", Check.INDEX, () -> lab.kernel(i));
        }
        Check.throwing("kernel", Check.ARGUMENT, () -> lab.kernel(0));
        Check.throwing("solution", Check.ARGUMENT, () -> jump.solution(0));
        Check.throwing("inverse", Check.ARGUMENT, () -> jump.inverse(0, 0));
    }
}
