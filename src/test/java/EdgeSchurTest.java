/** The edges of promises 22 to 26: Schur complements, displacements and generators. */
public final class EdgeSchurTest {
    private static final Edge.Making REGULAR = Edge.of(MinorTest.REGULAR);
    /** The steps end at 4 and 5; behind the first one there is the row 4 alone, with the entry 2. */
    private static final Edge.Making JUMP = Edge.of(MinorTest.JUMP + ";diagonal -4 3");
    private static final Edge.Making ZERO = Edge.of("toeplitz 3 prime 5;band -2 2 -50");
    /** A jump over all seven rows, behind which there is none left. */
    private static final Edge.Making CYCLE = Edge.of("toeplitz 7 prime 31;diagonal -1 1;diagonal 6 1");
    private static final Edge.Making UNIT = Edge.of("toeplitz 7 prime 2;diagonal 0 1");
    private static final Edge.Making ONE = Edge.of("toeplitz 1 prime 31;diagonal 0 -1");
    private static final Edge.Making NEGATIVE =
            Edge.of("toeplitz 2 prime 5;diagonal 0 -50;diagonal 1 -49;diagonal -1 49");

    public static void main(String[] args) {
        noSystem();
        stepBounds();
        matrixItself();
        behindSteps();
        lastRowAlone();
        noRowLeft();
        valuesModuloPrime();
        displacementsOfFirstRows();
        numbersOfPairs();
        pairBounds();
        pairComponents();
        orderOfPairs();
        mostGenerators();
        Check.finish();
    }

    /** 22 to 26: "if there is no system" is listed first. */
    private static void noSystem() {
        for (int number : new int[] {-1, 0, 1}) {
            Edge.refused("schur", Check.STATE, ToeplitzLab::new, lab -> lab.schur(number, number, 0));
            Edge.refused("displacement", Check.STATE, ToeplitzLab::new, lab -> lab.displacement(number, 0, number));
            Edge.refused("generators", Check.STATE, ToeplitzLab::new, lab -> lab.generators(number));
            Edge.refused("generator", Check.STATE, ToeplitzLab::new, lab -> lab.generator(number, number, 0, true));
        }
        Edge.refused("mostGenerators", Check.STATE, ToeplitzLab::new, ToeplitzLab::mostGenerators);
    }

    /** 22 to 25: "if there is no such step": the steps are 0 to steps(), however great SIZE is. */
    private static void stepBounds() {
        Edge.range("schur", JUMP, 0, 1, "0 2", (lab, step) -> lab.schur(step, 4, 4));
        Edge.range("displacement", JUMP, 0, 1, "0 2", (lab, step) -> lab.displacement(step, 4, 4));
        Edge.range("generators", JUMP, 0, 2, "2 1 0", ToeplitzLab::generators);
        Edge.range("generators, with a tail", Edge.of(MinorTest.JUMP), 0, 1, "2 0", ToeplitzLab::generators);
        Edge.range("generator", JUMP, 0, 1, "3 2", (lab, step) -> lab.generator(step, 0, 4, true));
        Edge.range("schur", REGULAR, 0, 2, "2 0 4", (lab, step) -> lab.schur(step, 2, 2));
        Edge.range("generators", REGULAR, 0, 3, "2 1 1 0", ToeplitzLab::generators);
        Edge.range("schur", ZERO, 0, 0, "0", (lab, step) -> lab.schur(step, 2, 2));
        Edge.range("displacement", ZERO, 0, 0, "0", (lab, step) -> lab.displacement(step, 2, 2));
        Edge.range("generators", ZERO, 0, 0, "0", ToeplitzLab::generators);
        Edge.range("generators", UNIT, 0, 7, "1 1 1 1 1 1 1 0", ToeplitzLab::generators);
        Edge.range("schur", UNIT, 0, 6, "1 1 1 1 1 1 1", (lab, step) -> lab.schur(step, 6, 6));
        Edge.range("generator", UNIT, 0, 6, "0 0 0 0 0 0 1", (lab, step) -> lab.generator(step, 0, 6, false));
    }

    /** 22 and 23: "behind step 0 it is T itself", with all rows and columns */
    private static void matrixItself() {
        Edge.range("a row", REGULAR, 0, 2, "2 1 4", (lab, i) -> lab.schur(0, i, 0));
        Edge.range("a column", REGULAR, 0, 2, "4 1 2", (lab, j) -> lab.schur(0, 2, j));
        Edge.range("a row", REGULAR, 0, 2, "2 1 4", (lab, i) -> lab.displacement(0, i, 0));
        Edge.range("a column", REGULAR, 0, 2, "2 3 1", (lab, j) -> lab.displacement(0, 0, j));
        Edge.range("row and column", ONE, 0, 0, "30", (lab, i) -> lab.schur(0, i, i));
        Edge.range("row and column", ONE, 0, 0, "30", (lab, i) -> lab.displacement(0, i, i));
        Edge.range("a row", UNIT, 0, 6, "0 0 0 0 0 0 1", (lab, i) -> lab.schur(0, i, 6));
        Edge.range("a component", REGULAR, 0, 2, "1 4 2", (lab, i) -> lab.generator(0, 0, i, false));
        Edge.range("a component", REGULAR, 0, 2, "2 3 1", (lab, i) -> lab.generator(0, 0, i, true));
    }

    /** 22 to 25: "has the rows and columns from r(k) to SIZE - 1, with their numbers in T" */
    private static void behindSteps() {
        Edge.range("a row", REGULAR, 1, 2, "4 2", (lab, i) -> lab.schur(1, i, 1));
        Edge.range("a column", REGULAR, 1, 2, "2 0", (lab, j) -> lab.schur(1, 2, j));
        Edge.range("a row", REGULAR, 1, 2, "6 3", (lab, i) -> lab.displacement(1, i, 2));
        Edge.range("a column", REGULAR, 1, 2, "2 3", (lab, j) -> lab.displacement(1, 2, j));
        Edge.range("a component", REGULAR, 1, 2, "1 4", (lab, i) -> lab.generator(1, 0, i, false));
        Edge.range("a component", REGULAR, 1, 2, "4 6", (lab, i) -> lab.generator(1, 0, i, true));
        Edge.refused("row and column 0", Check.INDEX, REGULAR, lab -> lab.schur(1, 0, 0));
        Edge.refused("row and column 3", Check.INDEX, REGULAR, lab -> lab.displacement(1, 3, 3));
    }

    /** 22 to 25: a single row is left; those of the jump are not there, regular or not. */
    private static void lastRowAlone() {
        Edge.range("a row", JUMP, 4, 4, "2", (lab, i) -> lab.schur(1, i, 4));
        Edge.range("a column", JUMP, 4, 4, "2", (lab, j) -> lab.schur(1, 4, j));
        Edge.range("a row", JUMP, 4, 4, "2", (lab, i) -> lab.displacement(1, i, 4));
        Edge.range("a column", JUMP, 4, 4, "2", (lab, j) -> lab.displacement(1, 4, j));
        Edge.range("a component", JUMP, 4, 4, "1", (lab, i) -> lab.generator(1, 0, i, false));
        Edge.range("a component", JUMP, 4, 4, "2", (lab, i) -> lab.generator(1, 0, i, true));
        Edge.range("a row", REGULAR, 2, 2, "4", (lab, i) -> lab.schur(2, i, 2));
        Edge.range("a column", REGULAR, 2, 2, "4", (lab, j) -> lab.displacement(2, 2, j));
    }

    /** 22 to 25: behind the last step of a regular T no row is left, so that there is no pair either. */
    private static void noRowLeft() {
        for (int i = 0; i <= 7; i++) {
            int row = i;
            Edge.refused("schur", Check.INDEX, CYCLE, lab -> lab.schur(1, row, row));
            Edge.refused("displacement", Check.INDEX, CYCLE, lab -> lab.displacement(1, row, row));
            Edge.refused("generator", Check.INDEX, CYCLE, lab -> lab.generator(1, 0, row, true));
        }
        Edge.asked("generators", 0, CYCLE, lab -> lab.generators(1));
        Edge.asked("generators", 0, ONE, lab -> lab.generators(1));
        Edge.refused("schur", Check.INDEX, ONE, lab -> lab.schur(1, 0, 0));
        Edge.refused("displacement", Check.INDEX, ONE, lab -> lab.displacement(1, 0, 0));
        Edge.refused("generator", Check.INDEX, ONE, lab -> lab.generator(1, 0, 0, false));
    }

    /** Section 1: "Values modulo PRIME are always 0 to PRIME - 1." */
    private static void valuesModuloPrime() {
        Edge.asked("schur", "0 4 1 0", NEGATIVE, lab -> Check.row(4, k -> lab.schur(0, k / 2, k % 2)));
        Edge.asked("displacement", "0 4 1 0", NEGATIVE, lab -> Check.row(4, k -> lab.displacement(0, k / 2, k % 2)));
        Edge.asked("left", "1 0 0 1", NEGATIVE, lab -> Check.row(4, k -> lab.generator(0, k / 2, k % 2, false)));
        Edge.asked("right", "0 4 1 0", NEGATIVE, lab -> Check.row(4, k -> lab.generator(0, k / 2, k % 2, true)));
    }

    /** Section 2: "or S(i, j) where i - 1 or j - 1 is no row or column of S"; 0 - 4 is 3 modulo 7 */
    private static void displacementsOfFirstRows() {
        Edge.asked("behind step 0", "2 3 1 1 0 0 4 0 0", REGULAR,
                lab -> Check.row(9, k -> lab.displacement(0, k / 3, k % 3)));
        Edge.asked("behind step 1", "4 6 2 3", REGULAR,
                lab -> Check.row(4, k -> lab.displacement(1, 1 + k / 2, 1 + k % 2)));
        Edge.asked("behind step 1 of the unit matrix", "1 0 0 0", UNIT,
                lab -> Check.row(4, k -> lab.displacement(1, 1 + k / 2, 1 + k % 2)));
        Edge.asked("behind step 0 of the cycle", "0 1 0 0 0 0", CYCLE,
                lab -> Check.row(6, k -> lab.displacement(0, k / 3, k % 3)));
    }

    /** 24: "as long as D is not 0": no pair where it is 0 from the beginning */
    private static void numbersOfPairs() {
        Edge.asked("generators", 0, ZERO, lab -> lab.generators(0));
        Edge.asked("generators", 1, ONE, lab -> lab.generators(0));
        Edge.asked("generators", 1, Edge.of("toeplitz 7 prime 2;diagonal 6 1"), lab -> lab.generators(0));
        Edge.asked("generators", 1, Edge.of("toeplitz 7 prime 2;diagonal -6 1"), lab -> lab.generators(0));
        Edge.asked("generators", 2, NEGATIVE, lab -> lab.generators(0));
        Edge.asked("generators", 1, Edge.of("toeplitz 7 prime 3;band 0 6 1"), lab -> lab.generators(0));
        Edge.asked("generators", 2, Edge.of("toeplitz 7 prime 3;band -1 6 1"), lab -> lab.generators(0));
    }

    /** 25: "number of the pair, from 0"; "if there is no such [...] pair" */
    private static void pairBounds() {
        Edge.range("pair", REGULAR, 0, 1, "1 0", (lab, pair) -> lab.generator(0, pair, 0, false));
        Edge.range("pair", REGULAR, 0, 1, "1 3", (lab, pair) -> lab.generator(0, pair, 2, true));
        Edge.range("pair", REGULAR, 0, 0, "4", (lab, pair) -> lab.generator(1, pair, 1, true));
        Edge.range("pair", ONE, 0, 0, "30", (lab, pair) -> lab.generator(0, pair, 0, true));
        for (int pair = -1; pair <= 1; pair++) {
            int number = pair;
            Edge.refused("no pair at all", Check.INDEX, ZERO, lab -> lab.generator(0, number, 0, true));
            Edge.refused("no pair at all", Check.INDEX, REGULAR, lab -> lab.generator(3, number, 2, false));
        }
    }

    /** 25: the row of the left vector and the column of the right one; all components in both pairs */
    private static void pairComponents() {
        Edge.asked("left", "1 4 2 0 1 4", REGULAR, lab -> Check.row(6, k -> lab.generator(0, k / 3, k % 3, false)));
        Edge.asked("right", "2 3 1 0 2 3", REGULAR, lab -> Check.row(6, k -> lab.generator(0, k / 3, k % 3, true)));
        Edge.asked("left", "1 0 0 0 0 0 0 1 0 0", JUMP,
                lab -> Check.row(10, k -> lab.generator(0, k / 5, k % 5, false)));
        Edge.asked("right", "0 0 1 0 3 1 0 0 0 0", JUMP,
                lab -> Check.row(10, k -> lab.generator(0, k / 5, k % 5, true)));
    }

    /** Section 2: "its first entry that is not 0, row by row and in each row from the left" */
    private static void orderOfPairs() {
        Edge.Making corner = Edge.of("toeplitz 3 prime 5;diagonal -2 3;diagonal 1 2");
        Edge.asked("left", "1 0 0 0 1 0", corner, lab -> Check.row(6, k -> lab.generator(0, k / 3, k % 3, false)));
        Edge.asked("right", "0 0 3 2 0 0", corner, lab -> Check.row(6, k -> lab.generator(0, k / 3, k % 3, true)));
        Edge.Making below = Edge.of("toeplitz 3 prime 5;diagonal 1 2;diagonal 2 3");
        Edge.asked("one pair", 1, below, lab -> lab.generators(0));
        Edge.asked("left", "0 1 4", below, lab -> Check.row(3, i -> lab.generator(0, 0, i, false)));
        Edge.asked("right", "2 0 0", below, lab -> Check.row(3, i -> lab.generator(0, 0, i, true)));
    }

    /** 26: "the greatest number of generators behind a step, step 0 included" */
    private static void mostGenerators() {
        Edge.asked("no step and no pair", 0, ZERO, ToeplitzLab::mostGenerators);
        Edge.asked("no step", 1, Edge.of("toeplitz 7 prime 2;diagonal 6 1"), ToeplitzLab::mostGenerators);
        Edge.asked("no step", 2, Edge.of("toeplitz 7 prime 2;diagonal 6 1;diagonal -5 1"), ToeplitzLab::mostGenerators);
        Edge.asked("behind step 0 alone", 2, REGULAR, ToeplitzLab::mostGenerators);
        Edge.asked("behind step 0 alone", 2, CYCLE, ToeplitzLab::mostGenerators);
        Edge.asked("behind each step but the last", 1, UNIT, ToeplitzLab::mostGenerators);
        Edge.asked("one row", 1, ONE, ToeplitzLab::mostGenerators);
    }
}
