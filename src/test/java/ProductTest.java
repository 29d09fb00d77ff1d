/** Promises 42 to 45: product, circulant, wrapped and probeSolves. */
public final class ProductTest {
    public static void main(String[] args) {
        none();
        products();
        smallest();
        greatest();
        solves();
        wrongArguments();
        Check.finish();
    }

    private static void none() {
        ToeplitzLab lab = new ToeplitzLab();
        Check.throwing("product", Check.STATE, () -> lab.product(-1));
        Check.throwing("circulant", Check.STATE, () -> lab.circulant(-1, -1));
        Check.throwing("wrapped", Check.STATE, () -> lab.wrapped(-1));
        Check.throwing("probeSolves", Check.STATE, lab::probeSolves);
    }

    private static void products() {
        ToeplitzLab lab = Check.lab(MinorTest.REGULAR);
        Check.same("product", "-1 6 8", Check.row(3, lab::product));
        Check.same("column 0", "2 1 4 0 1 3", Check.row(6, i -> lab.circulant(i, 0)));
        Check.same("column 1", "3 2 1 4 0 1", Check.row(6, i -> lab.circulant(i, 1)));
        Check.same("column 5", "1 4 0 1 3 2", Check.row(6, i -> lab.circulant(i, 5)));
        Check.same("wrapped", "-1 6 8 -5 13 1", Check.row(6, lab::wrapped));
    }

    private static void smallest() {
        ToeplitzLab lab = Check.lab("toeplitz 1 prime 2;diagonal 0 -3;probe 0 5");
        Check.same("circulant", "-3 0 0 -3", Check.row(4, k -> lab.circulant(k / 2, k % 2)));
        Check.same("wrapped", "-15 0", Check.row(2, lab::wrapped));
        Check.same("product", -15, lab.product(0));
    }

    private static void greatest() {
        ToeplitzLab lab = Check.lab("toeplitz 7 prime 2;band -6 6 -50");
        for (int i = 0; i < 7; i++) {
            lab.setProbe(i, 999);
        }
        Check.same("product", -349650, lab.product(6));
        Check.same("wrapped", -349650 + 50 * 999, lab.wrapped(7));
        Check.same("circulant", 0, lab.circulant(7, 0));
        Check.same("circulant", 0, lab.circulant(0, 7));
        Check.same("circulant", -50, lab.circulant(13, 13));
    }

    private static void solves() {
        ToeplitzLab lab = Check.lab(MinorTest.REGULAR);
        Check.same("other sides", false, lab.probeSolves());
        lab.setSide(0, -1);
        lab.setSide(1, 6);
        lab.setSide(2, 1);
        Check.same("the same modulo 7 alone", false, lab.probeSolves());
        lab.setSide(2, 8);
        Check.same("the products", true, lab.probeSolves());
        lab.setSide(0, 0);
        Check.same("the first one not", false, lab.probeSolves());
        Check.same("zeros", true, Check.lab("toeplitz 2 prime 2").probeSolves());
    }

    private static void wrongArguments() {
        ToeplitzLab lab = Check.lab(MinorTest.REGULAR);
        for (int i : new int[] {-1, 3, Integer.MIN_VALUE, Integer.MAX_VALUE}) {
            Check.throwing("product " + i, Check.INDEX, () -> lab.product(i));
        }
        for (int i : new int[] {-1, 6, Integer.MIN_VALUE, Integer.MAX_VALUE}) {
            Check.throwing("circulant, row " + i, Check.INDEX, () -> lab.circulant(i, 0));
            Check.throwing("circulant, column " + i, Check.INDEX, () -> lab.circulant(0, i));
            Check.throwing("wrapped " + i, Check.INDEX, () -> lab.wrapped(i));
        }
    }
}
