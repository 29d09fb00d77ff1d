/** The edges of promises 42 to 45: product, circulant, wrapped and probeSolves. */
public final class EdgeProductTest {
    private static final Edge.Making ONE = Edge.of("toeplitz 1 prime 2;diagonal 0 -50;side 0 -999;probe 0 999");
    private static final Edge.Making THREE = Edge.of(MinorTest.REGULAR);
    private static final Edge.Making SEVEN = Edge.of("toeplitz 7 prime 31;diagonal -6 10;diagonal -5 11;diagonal -4 12;"
            + "diagonal -3 13;diagonal -2 14;diagonal -1 15;diagonal 0 16;diagonal 1 17;diagonal 2 18;diagonal 3 19;"
            + "diagonal 4 20;diagonal 5 21;diagonal 6 22;probe 0 1;probe 3 -10;probe 6 100");

    public static void main(String[] args) {
        noSystem();
        products();
        greatestProducts();
        circulantBounds();
        circulantColumns();
        wrappedBounds();
        firstComponents();
        probeSolves();
        Check.finish();
    }

    /** 42 to 45: "if there is no system" is listed first. */
    private static void noSystem() {
        for (int number : new int[] {-1, 0, 14}) {
            Edge.refused("product", Check.STATE, ToeplitzLab::new, lab -> lab.product(number));
            Edge.refused("circulant", Check.STATE, ToeplitzLab::new, lab -> lab.circulant(number, number));
            Edge.refused("wrapped", Check.STATE, ToeplitzLab::new, lab -> lab.wrapped(number));
        }
        Edge.refused("probeSolves", Check.STATE, ToeplitzLab::new, ToeplitzLab::probeSolves);
    }

    /** 42: "if there is no such row": SIZE is none, though the circulant has that row. */
    private static void products() {
        Edge.range("product", ONE, 0, 0, "-49950", ToeplitzLab::product);
        Edge.range("product", THREE, 0, 2, "-1 6 8", ToeplitzLab::product);
        Edge.range("product", SEVEN, 0, 6, "886 977 1068 1159 1250 1341 1432", ToeplitzLab::product);
    }

    /** 42 and 44: the greatest and the smallest product that there can be */
    private static void greatestProducts() {
        for (int sign = -1; sign <= 1; sign += 2) {
            ToeplitzLab lab = Check.lab("toeplitz 7 prime 2;band -6 6 " + 50 * sign);
            for (int i = 0; i < 7; i++) {
                lab.setProbe(i, 999);
            }
            int due = sign * 7 * 50 * 999;
            String all = due + " " + due + " " + due + " " + due + " " + due + " " + due + " " + due;
            Check.same("product", all, Check.row(7, lab::product));
            Check.same("wrapped", all, Check.row(7, lab::wrapped));
            int less = sign * 50 * 999;
            Check.same("wrapped", "6 6 6 6 6 6 6", Check.row(7, i -> lab.wrapped(7 + i) / less));
        }
    }

    /** 43: "row, 0 to 2 * SIZE - 1", "column, 0 to 2 * SIZE - 1" */
    private static void circulantBounds() {
        Edge.range("a row", ONE, 0, 1, "-50 0", (lab, i) -> lab.circulant(i, 0));
        Edge.range("a column", ONE, 0, 1, "-50 0", (lab, j) -> lab.circulant(0, j));
        Edge.range("a row", THREE, 0, 5, "2 1 4 0 1 3", (lab, i) -> lab.circulant(i, 0));
        Edge.range("a row", THREE, 0, 5, "1 4 0 1 3 2", (lab, i) -> lab.circulant(i, 5));
        Edge.range("a column", THREE, 0, 5, "2 3 1 0 4 1", (lab, j) -> lab.circulant(0, j));
        Edge.range("a column", THREE, 0, 5, "3 1 0 4 1 2", (lab, j) -> lab.circulant(5, j));
        Edge.range("a row", SEVEN, 0, 13, "16 17 18 19 20 21 22 0 10 11 12 13 14 15", (lab, i) -> lab.circulant(i, 0));
        Edge.beyond("row and column", Check.INDEX, THREE, 0, 5, (lab, i) -> lab.circulant(i, i));
    }

    /** Section 4: "each other column is the one before it, moved down by one, with the last component first" */
    private static void circulantColumns() {
        for (Edge.Making making : new Edge.Making[] {ONE, THREE, SEVEN}) {
            ToeplitzLab lab = making.make();
            int size = lab.size();
            int[] column = new int[2 * size];
            for (int k = 1 - size; k < size; k++) {
                column[k < 0 ? 2 * size + k : k] = lab.diagonal(k);
            }
            for (int j = 0; j < 2 * size; j++) {
                for (int i = 0; i < 2 * size; i++) {
                    Check.same("circulant " + i + ", " + j, column[i], lab.circulant(i, j));
                }
                int last = column[2 * size - 1];
                System.arraycopy(column, 0, column, 1, 2 * size - 1);
                column[0] = last;
            }
        }
    }

    /** 44: "0 to 2 * SIZE - 1" */
    private static void wrappedBounds() {
        Edge.range("wrapped", ONE, 0, 1, "-49950 0", ToeplitzLab::wrapped);
        Edge.range("wrapped", THREE, 0, 5, "-1 6 8 -5 13 1", ToeplitzLab::wrapped);
        String products = "886 977 1068 1159 1250 1341 1432 ";
        Edge.range("wrapped", SEVEN, 0, 13, products + "1500 1600 1691 2012 2013 2104 -105", ToeplitzLab::wrapped);
    }

    /** Section 4: "of which the first SIZE are T times the probe" */
    private static void firstComponents() {
        for (Edge.Making making : new Edge.Making[] {ONE, THREE, SEVEN}) {
            ToeplitzLab lab = making.make();
            String due = Check.row(lab.size(), lab::product);
            Check.same("the first components", due, Check.row(lab.size(), lab::wrapped));
        }
    }

    /** 45: "Tells whether T times the probe is b": in each row, and not modulo PRIME */
    private static void probeSolves() {
        Edge.asked("zeros", true, Edge.of("toeplitz 7 prime 2"), ToeplitzLab::probeSolves);
        Edge.asked("other sides", false, THREE, ToeplitzLab::probeSolves);
        int[] products = {-1, 6, 8};
        for (int row = -1; row < 3; row++) {
            for (int more : new int[] {-7, -1, 1, 7}) {
                ToeplitzLab lab = THREE.make();
                for (int i = 0; i < 3; i++) {
                    lab.setSide(i, products[i] + (i == row ? more : 0));
                }
                Check.same("row " + row + " differs by " + more, row < 0, lab.probeSolves());
            }
        }
        Edge.asked("one row", true, Edge.of("toeplitz 1 prime 2;diagonal 0 -27;probe 0 37;side 0 -999"),
                ToeplitzLab::probeSolves);
        Edge.asked("one row", false, Edge.of("toeplitz 1 prime 2;diagonal 0 -27;probe 0 37;side 0 999"),
                ToeplitzLab::probeSolves);
    }
}
