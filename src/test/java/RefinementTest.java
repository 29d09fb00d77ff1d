/** Promises 31 to 41: digits, values, fractions and when they are exact. */
public final class RefinementTest {
    /** Rows 2 3, 1 2 with the determinant 1; the solution is 14, -9. */
    static final String SMALL = "toeplitz 2 prime 5;diagonal 0 2;diagonal 1 1;diagonal -1 3;side 0 1;side 1 -4";
    /** Two systems that do not touch, with the determinants 161201 and 8040. */
    static final String APART = "toeplitz 7 prime 31;diagonal 0 20;diagonal 2 1;diagonal -2 -1;side 0 1";

    public static void main(String[] args) {
        none();
        begin();
        lifts();
        fractions();
        digitLimits();
        lastDigits();
        commonMultiple();
        primeInDenominator();
        zeroSides();
        halves();
        liftsTo();
        wrongArguments();
        Check.finish();
    }

    private static void none() {
        ToeplitzLab lab = new ToeplitzLab();
        Check.throwing("digits", Check.STATE, lab::digits);
        Check.throwing("mostDigits", Check.STATE, lab::mostDigits);
        Check.throwing("digit", Check.STATE, () -> lab.digit(-1, -1));
        Check.throwing("residual", Check.STATE, () -> lab.residual(-1));
        Check.throwing("value", Check.STATE, () -> lab.value(-1));
        Check.throwing("centred", Check.STATE, () -> lab.centred(-1));
        Check.throwing("numerator", Check.STATE, () -> lab.numerator(-1));
        Check.throwing("denominator", Check.STATE, () -> lab.denominator(-1));
        Check.throwing("quotient", Check.STATE, () -> lab.quotient(-1));
        Check.throwing("isExact", Check.STATE, lab::isExact);
        Check.throwing("liftsTo", Check.STATE, lab::liftsTo);
    }

    private static void begin() {
        ToeplitzLab lab = Check.lab(SMALL);
        Check.same("digits", 0, lab.digits());
        Check.same("residual", "1 -4", Check.row(2, lab::residual));
        Check.same("value", "0 0", Check.row(2, lab::value));
        Check.same("centred", "0 0", Check.row(2, lab::centred));
        Check.same("denominator", "0 0", Check.row(2, lab::denominator));
        Check.throwing("digit", Check.INDEX, () -> lab.digit(0, 0));
        Check.throwing("numerator", Check.ARGUMENT, () -> lab.numerator(0));
        Check.throwing("quotient", Check.ARGUMENT, () -> lab.quotient(0));
        Check.same("isExact", false, lab.isExact());
        Check.same("liftsTo", 4, lab.liftsTo());
    }

    private static void lifts() {
        ToeplitzLab lab = Check.lab(SMALL);
        lab.lift();
        Check.same("value", "4 1", Check.row(2, lab::value));
        Check.same("residual", "-2 -2", Check.row(2, lab::residual));
        Check.same("centred", "-1 1", Check.row(2, lab::centred));
        lab.lift();
        Check.same("digits", 2, lab.digits());
        Check.same("value", "14 16", Check.row(2, lab::value));
        Check.same("residual", "-3 -2", Check.row(2, lab::residual));
        Check.same("centred", "-11 -9", Check.row(2, lab::centred));
        lab.lift();
        Check.same("value", "14 116", Check.row(2, lab::value));
        Check.same("residual", "-3 -2", Check.row(2, lab::residual));
        Check.same("centred", "14 -9", Check.row(2, lab::centred));
        Check.same("digit 0", "4 1", Check.row(2, i -> lab.digit(0, i)));
        Check.same("digit 1", "2 3", Check.row(2, i -> lab.digit(1, i)));
        Check.same("digit 2", "0 4", Check.row(2, i -> lab.digit(2, i)));
        Check.throwing("digit 3", Check.INDEX, () -> lab.digit(3, 0));
    }

    private static void fractions() {
        ToeplitzLab lab = Check.lab(SMALL);
        lab.lift();
        Check.same("one digit", "-1/1 1/1", fractions(lab));
        Check.same("isExact", false, lab.isExact());
        lab.lift();
        Check.same("two digits", "3/2 -2/3", fractions(lab));
        Check.same("quotient", 1.5, lab.quotient(0));
        Check.same("quotient", -2.0 / 3.0, lab.quotient(1));
        Check.same("liftsTo", 2, lab.liftsTo());
        lab.lift();
        Check.same("three digits", "none none", fractions(lab));
        Check.throwing("numerator", Check.ARGUMENT, () -> lab.numerator(0));
        Check.throwing("quotient", Check.ARGUMENT, () -> lab.quotient(1));
        Check.same("isExact", false, lab.isExact());
        lab.lift();
        Check.same("four digits", "14/1 -9/1", fractions(lab));
        Check.same("isExact", true, lab.isExact());
        Check.same("liftsTo", 0, lab.liftsTo());
        Check.same("quotient", -9.0, lab.quotient(1));
        lab.lift();
        Check.same("five digits", "14/1 -9/1", fractions(lab));
        Check.same("isExact", true, lab.isExact());
    }

    private static void digitLimits() {
        int[] primes = {2, 3, 5, 7, 11, 13, 17, 19, 23, 29, 31};
        int[] limits = {39, 25, 17, 14, 11, 10, 9, 9, 8, 8, 8};
        ToeplitzLab lab = Check.lab("toeplitz 1 prime 2;diagonal 0 1;side 0 1");
        for (int k = 0; k < primes.length; k++) {
            lab.setPrime(primes[k]);
            Check.same("mostDigits with " + primes[k], limits[k], lab.mostDigits());
            for (int lift = 1; lift <= limits[k]; lift++) {
                Check.same("lift", lift, lab.lift());
            }
            Check.throwing("one lift too many", Check.ARGUMENT, lab::lift);
            Check.same("digits", limits[k], lab.digits());
        }
    }

    /** -1/3 modulo 2 to the power of 39 has the binary digits 1 0 1 0 and so on. */
    private static void lastDigits() {
        ToeplitzLab lab = Check.lab("toeplitz 1 prime 2;diagonal 0 3;side 0 -1");
        for (int k = 0; k < 39; k++) {
            lab.lift();
        }
        Check.same("value", 366503875925L, lab.value(0));
        Check.same("centred", -183251937963L, lab.centred(0));
        Check.same("the last digit", 1, lab.digit(38, 0));
        Check.same("the one before", 0, lab.digit(37, 0));
        Check.same("residual", -2, lab.residual(0));
        Check.same("fraction", "-1/3", fractions(lab));
    }

    private static void commonMultiple() {
        ToeplitzLab lab = Check.lab(APART);
        Check.same("one part alone, with the last lift that there is", 8, lab.liftsTo());
        Check.same("one part alone", 8, lab.refine(40));
        Check.same("is exact", true, lab.isExact());
        Check.same("its denominator", 161201, lab.denominator(0));
        lab.setSide(1, 1);
        Check.same("both", ToeplitzLab.NONE, lab.liftsTo());
        Check.same("refine", 8, lab.refine(40));
        Check.same("the denominators", "161201 8040 161201 402 161201 8040 161201",
                Check.row(7, lab::denominator));
        Check.same("have a multiple that is too great", false, lab.isExact());
        Check.same("liftsTo without room", ToeplitzLab.NONE, lab.liftsTo());
        // The determinants 139049 and 7163, with the least common multiple 996007987.
        ToeplitzLab near = Check.lab("toeplitz 7 prime 31;diagonal 0 19;diagonal 2 2;diagonal -2 -4;side 0 1;side 1 1");
        Check.same("both", 8, near.refine(40));
        Check.same("have a multiple that is just not too great", true, near.isExact());
        // The determinant 709805 would need a ninth digit.
        ToeplitzLab far = Check.lab("toeplitz 7 prime 31;diagonal 0 29;diagonal 2 1;diagonal -2 -1;side 0 1");
        Check.same("no digit yet", ToeplitzLab.NONE, far.liftsTo());
        far.lift();
        Check.same("one digit", ToeplitzLab.NONE, far.liftsTo());
        Check.same("refine", 7, far.refine(40));
        Check.same("isExact", false, far.isExact());
    }

    private static void primeInDenominator() {
        // 9 modulo 27: Euclid's algorithm comes to 0/3, and 3 is the prime.
        ToeplitzLab lab = Check.lab("toeplitz 1 prime 3;diagonal 0 1;side 0 9");
        lab.lift();
        lab.lift();
        Check.same("0 modulo 9", "0/1", fractions(lab));
        lab.lift();
        Check.same("9 modulo 27", "none", fractions(lab));
        lab.lift();
        Check.same("9 modulo 81", "none", fractions(lab));
        lab.lift();
        Check.same("9 modulo 243", "9/1", fractions(lab));
        Check.same("liftsTo", 0, lab.liftsTo());
    }

    private static void zeroSides() {
        ToeplitzLab lab = Check.lab("toeplitz 2 prime 2;diagonal 0 1");
        Check.same("not exact without digits", false, lab.isExact());
        Check.same("liftsTo", 1, lab.liftsTo());
        lab.lift();
        Check.same("zeros", "0/1 0/1", fractions(lab));
        Check.same("quotient", 0.0, lab.quotient(0));
        Check.same("isExact", true, lab.isExact());
    }

    /** X in the middle: 1 modulo 2 is M / 2, which is not too great; 2 of 3 is. */
    private static void halves() {
        ToeplitzLab lab = Check.lab("toeplitz 1 prime 2;diagonal 0 1;side 0 1");
        lab.lift();
        Check.same("1 modulo 2", 1L, lab.centred(0));
        Check.same("1 modulo 2", "1/1", fractions(lab));
        lab.setSide(0, 2);
        lab.lift();
        lab.lift();
        Check.same("2 modulo 4", 2L, lab.centred(0));
        lab.setPrime(3);
        lab.lift();
        Check.same("2 modulo 3", -1L, lab.centred(0));
        Check.same("2 modulo 3", "-1/1", fractions(lab));
        Check.same("value", 2L, lab.value(0));
    }

    private static void liftsTo() {
        ToeplitzLab lab = Check.lab("toeplitz 2 prime 2;diagonal 0 2;diagonal 1 4;side 0 1");
        Check.same("not regular", ToeplitzLab.NONE, lab.liftsTo());
        lab.setPrime(3);
        int lifts = lab.liftsTo();
        Check.same("nothing is changed by asking", "0 1 0", lab.digits() + " " + lab.undoable() + " " + lab.entries());
        for (int k = lifts; k > 0; k--) {
            Check.same("not exact yet", false, lab.isExact());
            Check.same("liftsTo", k, lab.liftsTo());
            lab.lift();
        }
        Check.same("exact", true, lab.isExact());
        Check.same("the solution", "1/2 -1/1", fractions(lab));
    }

    private static String fractions(ToeplitzLab lab) {
        return Check.row(lab.size(),
                i -> lab.denominator(i) == 0 ? "none" : lab.numerator(i) + "/" + lab.denominator(i));
    }

    private static void wrongArguments() {
        ToeplitzLab lab = Check.lab(SMALL);
        lab.lift();
        for (int i : new int[] {-1, 2, 7, Integer.MIN_VALUE, Integer.MAX_VALUE}) {
            Check.throwing("digit, row " + i, Check.INDEX, () -> lab.digit(0, i));
            Check.throwing("digit, number " + i, Check.INDEX, () -> lab.digit(i, 0));
            Check.throwing("residual " + i, Check.INDEX, () -> lab.residual(i));
            Check.throwing("value " + i, Check.INDEX, () -> lab.value(i));
            Check.throwing("centred " + i, Check.INDEX, () -> lab.centred(i));
            Check.throwing("numerator " + i, Check.INDEX, () -> lab.numerator(i));
            Check.throwing("denominator " + i, Check.INDEX, () -> lab.denominator(i));
            Check.throwing("quotient " + i, Check.INDEX, () -> lab.quotient(i));
        }
        lab.setSide(0, 1);
        Check.throwing("numerator of no row and no fraction", Check.INDEX, () -> lab.numerator(2));
        Check.throwing("quotient of no row and no fraction", Check.INDEX, () -> lab.quotient(2));
        Check.throwing("digit 0 of no digits", Check.INDEX, () -> lab.digit(0, 0));
    }
}
