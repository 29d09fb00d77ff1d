/** The edges of promises 27 to 30: solution, inverse, kernel and isSolvable. */
public final class EdgeModularTest {
    private static final Edge.Making REGULAR = Edge.of(MinorTest.REGULAR);
    private static final Edge.Making JUMP = Edge.of(MinorTest.JUMP);
    private static final Edge.Making ONE = Edge.of("toeplitz 1 prime 31;diagonal 0 -1;side 0 -999");
    private static final Edge.Making ONE_ZERO = Edge.of("toeplitz 1 prime 31;diagonal 0 31");
    private static final Edge.Making SEVEN = Edge.of("toeplitz 7 prime 5;diagonal 0 1;diagonal 1 -1;side 0 1;side 6 1");
    private static final Edge.Making ZERO = Edge.of("toeplitz 7 prime 5;band -6 6 5");

    public static void main(String[] args) {
        noSystem();
        solutions();
        inverses();
        kernels();
        notRegular();
        order();
        lastComponents();
        solvable();
        Check.finish();
    }

    /** 27 to 30: "if there is no system" is listed first. */
    private static void noSystem() {
        for (int number : new int[] {-1, 0, 7}) {
            Edge.refused("solution", Check.STATE, ToeplitzLab::new, lab -> lab.solution(number));
            Edge.refused("inverse", Check.STATE, ToeplitzLab::new, lab -> lab.inverse(number, number));
            Edge.refused("kernel", Check.STATE, ToeplitzLab::new, lab -> lab.kernel(number));
        }
        Edge.refused("isSolvable", Check.STATE, ToeplitzLab::new, ToeplitzLab::isSolvable);
    }

    /** 27: "if there is no such row"; a component is 0 to PRIME - 1 */
    private static void solutions() {
        Edge.range("solution", REGULAR, 0, 2, "1 4 1", ToeplitzLab::solution);
        Edge.range("solution", ONE, 0, 0, "7", ToeplitzLab::solution);
        Edge.range("solution", SEVEN, 0, 6, "1 1 1 1 1 1 2", ToeplitzLab::solution);
        Edge.range("solution", Edge.of("toeplitz 2 prime 3;diagonal 0 1;side 0 -1;side 1 -3"), 0, 1, "2 0",
                ToeplitzLab::solution);
    }

    /** 28: "if there is no such row or column" */
    private static void inverses() {
        Edge.range("a row", REGULAR, 0, 2, "2 6 0", (lab, i) -> lab.inverse(i, 0));
        Edge.range("a row", REGULAR, 0, 2, "0 4 2", (lab, i) -> lab.inverse(i, 2));
        Edge.range("a column", REGULAR, 0, 2, "2 4 0", (lab, j) -> lab.inverse(0, j));
        Edge.range("a column", REGULAR, 0, 2, "0 6 2", (lab, j) -> lab.inverse(2, j));
        Edge.range("row and column", ONE, 0, 0, "30", (lab, i) -> lab.inverse(i, i));
        Edge.range("a row", SEVEN, 0, 6, "0 0 0 1 1 1 1", (lab, i) -> lab.inverse(i, 3));
        Edge.range("a column", SEVEN, 0, 6, "1 1 1 1 0 0 0", (lab, j) -> lab.inverse(3, j));
    }

    /** 29: "if there is no such row" */
    private static void kernels() {
        Edge.range("kernel", JUMP, 0, 4, "4 0 0 0 1", ToeplitzLab::kernel);
        Edge.range("kernel", ONE_ZERO, 0, 0, "1", ToeplitzLab::kernel);
        Edge.range("kernel", ZERO, 0, 6, "1 0 0 0 0 0 0", ToeplitzLab::kernel);
    }

    /** 27 and 28: "if T is not regular"; 29: "if T is regular"; both sides of the same T modulo two primes */
    private static void notRegular() {
        for (int prime : new int[] {3, 5, 7}) {
            boolean regular = prime != 5;
            Edge.Making making = Edge.of("toeplitz 1 prime " + prime + ";diagonal 0 5;side 0 1");
            Edge.asked("isRegular", regular, making, ToeplitzLab::isRegular);
            if (regular) {
                Edge.asked("solution", prime == 3 ? 2 : 3, making, lab -> lab.solution(0));
                Edge.asked("inverse", prime == 3 ? 2 : 3, making, lab -> lab.inverse(0, 0));
                Edge.refused("kernel", Check.ARGUMENT, making, lab -> lab.kernel(0));
            } else {
                Edge.refused("solution", Check.ARGUMENT, making, lab -> lab.solution(0));
                Edge.refused("inverse", Check.ARGUMENT, making, lab -> lab.inverse(0, 0));
                Edge.asked("kernel", 1, making, lab -> lab.kernel(0));
            }
        }
        // Of the sizes 0 to 5 the size 4 is regular, the size 5 is not.
        Edge.refused("solution", Check.ARGUMENT, JUMP, lab -> lab.solution(0));
        Edge.refused("inverse", Check.ARGUMENT, JUMP, lab -> lab.inverse(3, 3));
        Edge.refused("solution that there would be", Check.ARGUMENT, ZERO, lab -> lab.solution(6));
        Edge.refused("kernel", Check.ARGUMENT, SEVEN, lab -> lab.kernel(6));
    }

    /** 27 to 29: of both exceptions the one that is listed first is thrown. */
    private static void order() {
        Edge.beyond("solution", Check.INDEX, JUMP, 0, 4, ToeplitzLab::solution);
        Edge.beyond("inverse", Check.INDEX, JUMP, 0, 4, (lab, i) -> lab.inverse(i, 4));
        Edge.beyond("inverse", Check.INDEX, JUMP, 0, 4, (lab, j) -> lab.inverse(0, j));
        Edge.beyond("kernel", Check.INDEX, REGULAR, 0, 2, ToeplitzLab::kernel);
        Edge.refused("solution", Check.ARGUMENT, JUMP, lab -> lab.solution(4));
        Edge.refused("inverse", Check.ARGUMENT, JUMP, lab -> lab.inverse(4, 0));
        Edge.refused("kernel", Check.ARGUMENT, REGULAR, lab -> lab.kernel(2));
    }

    /** 29: "the one whose last component that is not 0 stands at the smallest index and is 1" */
    private static void lastComponents() {
        Edge.range("the first index", Edge.of("toeplitz 3 prime 3;diagonal -1 1;diagonal -2 2"), 0, 2, "1 0 0",
                ToeplitzLab::kernel);
        Edge.range("the index between", Edge.of("toeplitz 3 prime 7;band -2 2 3"), 0, 2, "6 1 0", ToeplitzLab::kernel);
        Edge.range("a column of zeros behind another", Edge.of("toeplitz 3 prime 3;diagonal 2 1"), 0, 2, "0 1 0",
                ToeplitzLab::kernel);
        Edge.range("the last index", Edge.of("toeplitz 3 prime 3;diagonal 1 1"), 0, 2, "0 0 1", ToeplitzLab::kernel);
        Edge.range("the last of seven", Edge.of("toeplitz 7 prime 2;diagonal 1 1;diagonal -6 2"), 0, 6, "0 0 0 0 0 0 1",
                ToeplitzLab::kernel);
    }

    /** 30: of an equation of zeros each side that is 0 modulo PRIME is one, and its neighbours are none. */
    private static void solvable() {
        Edge.asked("regular", true, SEVEN, ToeplitzLab::isSolvable);
        Edge.asked("regular", true, ONE, ToeplitzLab::isSolvable);
        for (int side = -6; side <= 6; side++) {
            boolean due = side % 5 == 0;
            for (int row = 0; row < 7; row += 3) {
                Edge.Making making = Edge.of("toeplitz 7 prime 5;band -6 6 5;side " + row + " " + side);
                Edge.asked("side " + row + " is " + side, due, making, ToeplitzLab::isSolvable);
            }
            Edge.Making one = Edge.of("toeplitz 1 prime 5;side 0 " + side);
            Edge.asked("side 0 is " + side, due, one, ToeplitzLab::isSolvable);
            Edge.Making equal = Edge.of("toeplitz 3 prime 5;band -2 2 1;side 0 1;side 1 6;side 2 " + (side + 1));
            Edge.asked("three equal rows with " + (side + 1), due, equal, ToeplitzLab::isSolvable);
        }
    }
}
