/** The edges of promises 7 to 12: size, prime, diagonal, entry, side and probe; and of the calls of one object. */
public final class EdgeSystemTest {
    private static final Edge.Making ONE = Edge.of("toeplitz 1 prime 2;diagonal 0 -50;side 0 -999;probe 0 999");
    private static final Edge.Making THREE = Edge.of("toeplitz 3 prime 5;diagonal -2 1;diagonal -1 2;diagonal 0 3;"
            + "diagonal 1 4;diagonal 2 50;side 0 6;side 1 7;side 2 8;probe 0 9;probe 1 10;probe 2 11");
    private static final Edge.Making SEVEN = Edge.of("toeplitz 7 prime 31;diagonal -6 -6;diagonal -5 -5;diagonal -1 -1;"
            + "diagonal 0 40;diagonal 1 1;diagonal 5 5;diagonal 6 6;side 0 1;side 6 7;probe 0 11;probe 6 17");

    public static void main(String[] args) {
        noSystem();
        sizes();
        primes();
        diagonals();
        entries();
        sides();
        probes();
        otherSizes();
        lastCall();
        Check.finish();
    }

    /** 7 to 12: "if there is no system"; it is listed first, so it comes before what the arguments are. */
    private static void noSystem() {
        for (int number : new int[] {-1, 0, 7, Integer.MIN_VALUE, Integer.MAX_VALUE}) {
            Edge.refused("diagonal", Check.STATE, ToeplitzLab::new, lab -> lab.diagonal(number));
            Edge.refused("entry", Check.STATE, ToeplitzLab::new, lab -> lab.entry(number, number));
            Edge.refused("side", Check.STATE, ToeplitzLab::new, lab -> lab.side(number));
            Edge.refused("probe", Check.STATE, ToeplitzLab::new, lab -> lab.probe(number));
        }
    }

    /** 7: "Returns SIZE; 0 if there is no system." */
    private static void sizes() {
        Edge.asked("no system", 0, ToeplitzLab::new, ToeplitzLab::size);
        Edge.asked("the smallest size", 1, ONE, ToeplitzLab::size);
        Edge.asked("the greatest size", 7, SEVEN, ToeplitzLab::size);
    }

    /** 8: "Returns PRIME; 0 if there is no system." */
    private static void primes() {
        Edge.asked("no system", 0, ToeplitzLab::new, ToeplitzLab::prime);
        Edge.asked("the smallest prime", 2, ONE, ToeplitzLab::prime);
        Edge.asked("the greatest prime", 31, SEVEN, ToeplitzLab::prime);
    }

    /** 9: "if there is no such diagonal"; "the diagonals are numbered from -(SIZE - 1) to SIZE - 1" */
    private static void diagonals() {
        Edge.range("diagonal", ONE, 0, 0, "-50", ToeplitzLab::diagonal);
        Edge.range("diagonal", THREE, -2, 2, "1 2 3 4 50", ToeplitzLab::diagonal);
        Edge.range("diagonal", SEVEN, -6, 6, "-6 -5 0 0 0 -1 40 1 0 0 0 5 6", ToeplitzLab::diagonal);
    }

    /** 10: "if there is no such row or column"; an entry is "the value of the diagonal i - j" */
    private static void entries() {
        Edge.range("entry", ONE, 0, 0, "-50", (lab, i) -> lab.entry(i, 0));
        Edge.range("entry", ONE, 0, 0, "-50", (lab, j) -> lab.entry(0, j));
        Edge.range("a row", THREE, 0, 2, "3 4 50", (lab, i) -> lab.entry(i, 0));
        Edge.range("a row", THREE, 0, 2, "1 2 3", (lab, i) -> lab.entry(i, 2));
        Edge.range("a column", THREE, 0, 2, "3 2 1", (lab, j) -> lab.entry(0, j));
        Edge.range("a column", THREE, 0, 2, "50 4 3", (lab, j) -> lab.entry(2, j));
        Edge.range("a row", SEVEN, 0, 6, "40 1 0 0 0 5 6", (lab, i) -> lab.entry(i, 0));
        Edge.range("a column", SEVEN, 0, 6, "40 -1 0 0 0 -5 -6", (lab, j) -> lab.entry(0, j));
        Edge.beyond("row and column", Check.INDEX, THREE, 0, 2, (lab, i) -> lab.entry(i, i));
    }

    /** 11: "if there is no such row" */
    private static void sides() {
        Edge.range("side", ONE, 0, 0, "-999", ToeplitzLab::side);
        Edge.range("side", THREE, 0, 2, "6 7 8", ToeplitzLab::side);
        Edge.range("side", SEVEN, 0, 6, "1 0 0 0 0 0 7", ToeplitzLab::side);
    }

    /** 12: "if there is no such row" */
    private static void probes() {
        Edge.range("probe", ONE, 0, 0, "999", ToeplitzLab::probe);
        Edge.range("probe", THREE, 0, 2, "9 10 11", ToeplitzLab::probe);
        Edge.range("probe", SEVEN, 0, 6, "11 0 0 0 0 0 17", ToeplitzLab::probe);
    }

    /** 9 to 12: the bounds go with SIZE, where it grows and where it shrinks. */
    private static void otherSizes() {
        Edge.Making grown = () -> {
            ToeplitzLab lab = THREE.make();
            lab.grow(-7, 8, 9);
            return lab;
        };
        Edge.range("diagonal", grown, -3, 3, "8 1 2 3 4 50 -7", ToeplitzLab::diagonal);
        Edge.range("entry", grown, 0, 3, "3 4 50 -7", (lab, i) -> lab.entry(i, 0));
        Edge.range("side", grown, 0, 3, "6 7 8 9", ToeplitzLab::side);
        Edge.range("probe", grown, 0, 3, "9 10 11 0", ToeplitzLab::probe);
        Edge.Making shrunk = () -> {
            ToeplitzLab lab = THREE.make();
            lab.shrink();
            return lab;
        };
        Edge.range("diagonal", shrunk, -1, 1, "2 3 4", ToeplitzLab::diagonal);
        Edge.range("entry", shrunk, 0, 1, "3 2", (lab, j) -> lab.entry(0, j));
        Edge.range("side", shrunk, 0, 1, "6 7", ToeplitzLab::side);
        Edge.range("probe", shrunk, 0, 1, "9 10", ToeplitzLab::probe);
    }

    /** "An object is used for at most 512 calls": the last of them is answered like the others. */
    private static void lastCall() {
        ToeplitzLab lab = new ToeplitzLab();
        lab.append(0x20746f65, 0x706c6974, 0x7a203120, 0x7072696d, 0x65203331);
        lab.load(20);
        for (int call = 3; call <= 510; call++) {
            Check.same("setProbe", call == 3 ? 0 : call - 1, lab.setProbe(0, call));
        }
        Check.same("the 511th call", 7, lab.undo());
        Check.same("the 512th call", 509, lab.probe(0));
    }
}
