/** The edges of promises 13 to 21: minors, the rank, steps, regularPrimes and minorIf. */
public final class EdgeMinorTest {
    private static final Edge.Making REGULAR = Edge.of(MinorTest.REGULAR);
    private static final Edge.Making JUMP = Edge.of(MinorTest.JUMP);
    private static final Edge.Making ZERO = Edge.of("toeplitz 7 prime 5;band -6 6 -50");
    /** A cycle of all seven rows: no leading block but the whole is regular. */
    private static final Edge.Making CYCLE = Edge.of("toeplitz 7 prime 31;diagonal -1 1;diagonal 6 1");
    private static final Edge.Making UNIT = Edge.of("toeplitz 7 prime 2;diagonal 0 1");
    private static final Edge.Making ONE = Edge.of("toeplitz 1 prime 31;diagonal 0 -1");
    private static final Edge.Making ONE_ZERO = Edge.of("toeplitz 1 prime 31;diagonal 0 31");

    public static void main(String[] args) {
        noSystem();
        minors();
        valuesOfMinors();
        ranks();
        regular();
        steps();
        stepEnds();
        longestJumps();
        tails();
        regularPrimes();
        minorIfBounds();
        minorIfOrder();
        minorIfAnswers();
        Check.finish();
    }

    /** 13 to 21: "if there is no system" is listed first. */
    private static void noSystem() {
        Edge.refused("rank", Check.STATE, ToeplitzLab::new, ToeplitzLab::rank);
        Edge.refused("isRegular", Check.STATE, ToeplitzLab::new, ToeplitzLab::isRegular);
        Edge.refused("steps", Check.STATE, ToeplitzLab::new, ToeplitzLab::steps);
        Edge.refused("longestJump", Check.STATE, ToeplitzLab::new, ToeplitzLab::longestJump);
        Edge.refused("tail", Check.STATE, ToeplitzLab::new, ToeplitzLab::tail);
        Edge.refused("regularPrimes", Check.STATE, ToeplitzLab::new, ToeplitzLab::regularPrimes);
        for (int number : new int[] {-1, 0, 1}) {
            Edge.refused("minor", Check.STATE, ToeplitzLab::new, lab -> lab.minor(number));
            Edge.refused("stepEnd", Check.STATE, ToeplitzLab::new, lab -> lab.stepEnd(number));
            Edge.refused("minorIf", Check.STATE, ToeplitzLab::new, lab -> lab.minorIf(number, 51 * number, number));
        }
    }

    /** 13: "a size, 0 to SIZE"; "the minor of the size 0 is 1" */
    private static void minors() {
        Edge.range("minor", REGULAR, 0, 3, "1 2 1 4", ToeplitzLab::minor);
        Edge.range("minor", ONE, 0, 1, "1 30", ToeplitzLab::minor);
        Edge.range("minor", ONE_ZERO, 0, 1, "1 0", ToeplitzLab::minor);
        Edge.range("minor", ZERO, 0, 7, "1 0 0 0 0 0 0 0", ToeplitzLab::minor);
        Edge.range("minor", UNIT, 0, 7, "1 1 1 1 1 1 1 1", ToeplitzLab::minor);
        Edge.range("minor", CYCLE, 0, 7, "1 0 0 0 0 0 0 1", ToeplitzLab::minor);
    }

    /** Section 1: "Values modulo PRIME are always 0 to PRIME - 1." */
    private static void valuesOfMinors() {
        ToeplitzLab lab = Check.lab("toeplitz 1 prime 7");
        int[] values = {-50, -8, -7, -6, -1, 0, 1, 6, 7, 8, 50};
        int[] due = {6, 6, 0, 1, 6, 0, 1, 6, 0, 1, 1};
        for (int k = 0; k < values.length; k++) {
            lab.setDiagonal(0, values[k]);
            Check.same("minor of " + values[k], due[k], lab.minor(1));
            Check.same("minorIf of " + values[k], due[k], lab.minorIf(0, values[k], 1));
            Check.same("isRegular", due[k] != 0, lab.isRegular());
            Check.same("rank", due[k] == 0 ? 0 : 1, lab.rank());
        }
    }

    /** 14: from 0, where all entries are 0 modulo PRIME, to SIZE. */
    private static void ranks() {
        Edge.asked("rank", 0, ZERO, ToeplitzLab::rank);
        Edge.asked("rank", 0, ONE_ZERO, ToeplitzLab::rank);
        Edge.asked("rank", 1, ONE, ToeplitzLab::rank);
        Edge.asked("rank", 1, Edge.of("toeplitz 7 prime 5;diagonal 6 1"), ToeplitzLab::rank);
        Edge.asked("rank", 6, Edge.of("toeplitz 7 prime 5;diagonal -1 1"), ToeplitzLab::rank);
        Edge.asked("rank", 6, Edge.of("toeplitz 7 prime 5;diagonal 1 1"), ToeplitzLab::rank);
        Edge.asked("rank", 7, CYCLE, ToeplitzLab::rank);
        Edge.asked("rank", 7, UNIT, ToeplitzLab::rank);
    }

    /** 15: "T is regular if the size SIZE is", whatever the sizes before it are. */
    private static void regular() {
        Edge.asked("isRegular", true, CYCLE, ToeplitzLab::isRegular);
        Edge.asked("isRegular", true, UNIT, ToeplitzLab::isRegular);
        Edge.asked("isRegular", true, ONE, ToeplitzLab::isRegular);
        Edge.asked("isRegular", false, ONE_ZERO, ToeplitzLab::isRegular);
        Edge.asked("isRegular", false, JUMP, ToeplitzLab::isRegular);
        Edge.asked("isRegular", false, ZERO, ToeplitzLab::isRegular);
    }

    /** 16: from no step to one for each size. */
    private static void steps() {
        Edge.asked("steps", 0, ZERO, ToeplitzLab::steps);
        Edge.asked("steps", 0, ONE_ZERO, ToeplitzLab::steps);
        Edge.asked("steps", 1, ONE, ToeplitzLab::steps);
        Edge.asked("steps", 1, CYCLE, ToeplitzLab::steps);
        Edge.asked("steps", 1, JUMP, ToeplitzLab::steps);
        Edge.asked("steps", 7, UNIT, ToeplitzLab::steps);
    }

    /** 17: "if there is no such step"; "0 for T itself" */
    private static void stepEnds() {
        Edge.range("stepEnd", ZERO, 0, 0, "0", ToeplitzLab::stepEnd);
        Edge.range("stepEnd", ONE_ZERO, 0, 0, "0", ToeplitzLab::stepEnd);
        Edge.range("stepEnd", ONE, 0, 1, "0 1", ToeplitzLab::stepEnd);
        Edge.range("stepEnd", JUMP, 0, 1, "0 4", ToeplitzLab::stepEnd);
        Edge.range("stepEnd", CYCLE, 0, 1, "0 7", ToeplitzLab::stepEnd);
        Edge.range("stepEnd", REGULAR, 0, 3, "0 1 2 3", ToeplitzLab::stepEnd);
        Edge.range("stepEnd", UNIT, 0, 7, "0 1 2 3 4 5 6 7", ToeplitzLab::stepEnd);
    }

    /** 18: "0 if there are no steps" */
    private static void longestJumps() {
        Edge.asked("longestJump", 0, ZERO, ToeplitzLab::longestJump);
        Edge.asked("longestJump", 0, ONE_ZERO, ToeplitzLab::longestJump);
        Edge.asked("longestJump", 1, ONE, ToeplitzLab::longestJump);
        Edge.asked("longestJump", 1, UNIT, ToeplitzLab::longestJump);
        Edge.asked("the tail is no jump", 4, JUMP, ToeplitzLab::longestJump);
        Edge.asked("nor a longer one", 1, Edge.of("toeplitz 7 prime 5;band -6 6 1"), ToeplitzLab::longestJump);
        Edge.asked("longestJump", 7, CYCLE, ToeplitzLab::longestJump);
        // The regular sizes are 0, 1 and 3, or 0, 2 and 3.
        Edge.Making last = Edge.of("toeplitz 3 prime 5;band -1 1 1;diagonal 2 2");
        Edge.asked("the last jump", 2, last, ToeplitzLab::longestJump);
        Edge.asked("its end", "0 1 3", last, lab -> Check.row(3, lab::stepEnd));
        Edge.Making first = Edge.of("toeplitz 3 prime 5;diagonal -1 1;diagonal 1 1;diagonal -2 2;diagonal 2 2");
        Edge.asked("the first jump", 2, first, ToeplitzLab::longestJump);
        Edge.asked("its end", "0 2 3", first, lab -> Check.row(3, lab::stepEnd));
    }

    /** 19: "SIZE minus the greatest regular size": 0 if T is regular, SIZE if there are no steps. */
    private static void tails() {
        Edge.asked("tail", 7, ZERO, ToeplitzLab::tail);
        Edge.asked("tail", 1, ONE_ZERO, ToeplitzLab::tail);
        Edge.asked("tail", 0, ONE, ToeplitzLab::tail);
        Edge.asked("tail", 0, CYCLE, ToeplitzLab::tail);
        Edge.asked("tail", 1, JUMP, ToeplitzLab::tail);
        Edge.asked("tail", 6, Edge.of("toeplitz 7 prime 5;band -6 6 1"), ToeplitzLab::tail);
    }

    /** 20: "bit k is set for the prime with the index k", from the bit 0 for 2 to the bit 10 for 31 */
    private static void regularPrimes() {
        Edge.asked("no prime", 0, ZERO, ToeplitzLab::regularPrimes);
        Edge.asked("no prime", 0, Edge.of("toeplitz 1 prime 2"), ToeplitzLab::regularPrimes);
        Edge.asked("all primes", 2047, CYCLE, ToeplitzLab::regularPrimes);
        Edge.asked("all primes", 2047, Edge.of("toeplitz 1 prime 2;diagonal 0 37"), ToeplitzLab::regularPrimes);
        int[] primes = {2, 3, 5, 7, 11, 13, 17, 19, 23, 29, 31};
        for (int k = 0; k < primes.length; k++) {
            String head = "toeplitz 2 prime " + primes[10 - k] + ";diagonal 0 ";
            Edge.asked("all but " + primes[k], 2047 - (1 << k), Edge.of(head + primes[k]), ToeplitzLab::regularPrimes);
            Edge.asked("all but " + primes[k], 2047 - (1 << k), Edge.of(head + -primes[k]), ToeplitzLab::regularPrimes);
        }
    }

    /** 21: "k: number of the diagonal", "value: -50 to 50", "size: a size, 0 to SIZE" */
    private static void minorIfBounds() {
        Edge.range("diagonal", REGULAR, -2, 2, "1 4 4 4 1", (lab, k) -> lab.minorIf(k, 0, 2));
        Edge.range("size", REGULAR, 0, 3, "1 1 5 0", (lab, size) -> lab.minorIf(0, 1, size));
        Edge.beyond("value", Check.ARGUMENT, REGULAR, -50, 50, (lab, value) -> lab.minorIf(0, value, 1));
        Edge.asked("the greatest value", 1, REGULAR, lab -> lab.minorIf(0, 50, 1));
        Edge.asked("the smallest value", 6, REGULAR, lab -> lab.minorIf(0, -50, 1));
        Edge.range("diagonal", ONE, 0, 0, "12", (lab, k) -> lab.minorIf(k, -50, 1));
        Edge.range("size", ONE, 0, 1, "1 19", (lab, size) -> lab.minorIf(0, 50, size));
    }

    /** 21: of the exceptions the one that is listed first is thrown. */
    private static void minorIfOrder() {
        for (int value : new int[] {-51, 51}) {
            Edge.refused("diagonal and value", Check.INDEX, REGULAR, lab -> lab.minorIf(3, value, 0));
            Edge.refused("diagonal and value", Check.INDEX, REGULAR, lab -> lab.minorIf(-3, value, 3));
            Edge.refused("size and value", Check.INDEX, REGULAR, lab -> lab.minorIf(2, value, 4));
            Edge.refused("size and value", Check.INDEX, REGULAR, lab -> lab.minorIf(-2, value, -1));
            Edge.refused("value alone", Check.ARGUMENT, REGULAR, lab -> lab.minorIf(2, value, 3));
        }
    }

    /** 21: a minor of rows and columns that the diagonal does not touch is the one that there is. */
    private static void minorIfAnswers() {
        Edge.Making other = Edge.of(MinorTest.REGULAR.replace("prime 7", "prime 31"));
        Edge.range("the size", other, 0, 3, "1 2 1 28", (lab, size) -> lab.minorIf(2, 0, size));
        Edge.range("the size", REGULAR, 0, 3, "1 2 4 1", (lab, size) -> lab.minorIf(1, 0, size));
        Edge.range("the size", REGULAR, 0, 3, "1 2 0 0", (lab, size) -> lab.minorIf(-1, 4, size));
        Edge.asked("the whole cycle", 0, CYCLE, lab -> lab.minorIf(6, 0, 7));
        Edge.asked("the whole cycle", 1, CYCLE, lab -> lab.minorIf(6, 1, 7));
        Edge.asked("no row of it", 1, CYCLE, lab -> lab.minorIf(6, 0, 0));
    }
}
