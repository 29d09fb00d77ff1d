import java.util.function.Function;

/** The edges of promises 31 to 41: digits, residuals, values, fractions and when they are exact. */
public final class EdgeRefinementTest {
    private static final int[] PRIMES = {2, 3, 5, 7, 11, 13, 17, 19, 23, 29, 31};
    private static final Edge.Making BEGUN = Edge.of(RefinementTest.SMALL);
    private static final Edge.Making SINGULAR = Edge.of("toeplitz 2 prime 5;side 0 1");
    /** The fraction of the last row has the numerator 524288, of which the doubled square is 2 to the power of 39. */
    static final String LADDER = "toeplitz 7 prime 2;diagonal 0 1;diagonal 1 -8;side 0 2";
    /** The doubled square of 653027 is just not greater than 31 to the power of 8; all denominators are 653027. */
    private static final String LAST_DENOMINATOR = "toeplitz 4 prime 31;diagonal -3 -25;diagonal -2 -3;diagonal -1 -3;"
            + "diagonal 0 -21;diagonal 1 14;diagonal 2 20;side 0 1";
    /** Three of the denominators are 653028. */
    private static final String NEXT_DENOMINATOR = "toeplitz 4 prime 31;diagonal -3 -4;diagonal -2 -27;diagonal -1 -19;"
            + "diagonal 0 14;diagonal 1 -1;diagonal 2 -27;diagonal 3 -25;side 0 1";
    /** The denominators 333667 and 2997 have the least common multiple 999999999. */
    private static final String LAST_MULTIPLE = "toeplitz 7 prime 31;diagonal -6 -23;diagonal -4 -2;diagonal -2 8;"
            + "diagonal 0 9;diagonal 2 22;diagonal 4 5;diagonal 6 -46;side 0 1;side 1 1";
    /** The denominators 578369 and 1729 have the least common multiple 1000000001. */
    private static final String NEXT_MULTIPLE = "toeplitz 7 prime 31;diagonal -6 29;diagonal -4 10;diagonal -2 -23;"
            + "diagonal 0 9;diagonal 2 -22;diagonal 4 12;diagonal 6 -47;side 0 1;side 1 1";

    public static void main(String[] args) {
        noSystem();
        begun();
        digits();
        mostDigits();
        digitBounds();
        rowBounds();
        rowIsTestedFirst();
        centredSmall();
        centredLarge();
        noDigitNoFraction();
        greatestNumerators();
        greatestDenominators();
        primeInDenominator();
        signs();
        quotients();
        eachComponent();
        commonMultiple();
        eachEquation();
        lastDigitOfAll();
        liftsTo();
        liftsToWithoutLifts();
        Check.finish();
    }

    private static Edge.Making lifted(String text, int lifts) {
        return () -> {
            ToeplitzLab lab = Check.lab(text);
            for (int k = 1; k <= lifts; k++) {
                Check.same("lift", k, lab.lift());
            }
            return lab;
        };
    }

    private static String single(int prime, int entry, int side) {
        return "toeplitz 1 prime " + prime + ";diagonal 0 " + entry + ";side 0 " + side;
    }

    private static String fractions(ToeplitzLab lab) {
        return Check.row(lab.size(),
                i -> lab.denominator(i) == 0 ? "none" : lab.numerator(i) + "/" + lab.denominator(i));
    }

    /** 31 to 41: "if there is no system" is listed first. */
    private static void noSystem() {
        for (int number : new int[] {-1, 0, 7}) {
            Edge.refused("digit", Check.STATE, ToeplitzLab::new, lab -> lab.digit(number, number));
            Edge.refused("residual", Check.STATE, ToeplitzLab::new, lab -> lab.residual(number));
            Edge.refused("value", Check.STATE, ToeplitzLab::new, lab -> lab.value(number));
            Edge.refused("centred", Check.STATE, ToeplitzLab::new, lab -> lab.centred(number));
            Edge.refused("numerator", Check.STATE, ToeplitzLab::new, lab -> lab.numerator(number));
            Edge.refused("denominator", Check.STATE, ToeplitzLab::new, lab -> lab.denominator(number));
            Edge.refused("quotient", Check.STATE, ToeplitzLab::new, lab -> lab.quotient(number));
        }
        Edge.refused("digits", Check.STATE, ToeplitzLab::new, ToeplitzLab::digits);
        Edge.refused("mostDigits", Check.STATE, ToeplitzLab::new, ToeplitzLab::mostDigits);
        Edge.refused("isExact", Check.STATE, ToeplitzLab::new, ToeplitzLab::isExact);
        Edge.refused("liftsTo", Check.STATE, ToeplitzLab::new, ToeplitzLab::liftsTo);
    }

    /** Section 3: "The refinement begins with no digits, the residual b, and every value X(i) 0." */
    private static void begun() {
        Edge.asked("digits", 0, BEGUN, ToeplitzLab::digits);
        Edge.range("residual", BEGUN, 0, 1, "1 -4", ToeplitzLab::residual);
        Edge.range("value", BEGUN, 0, 1, "0 0", ToeplitzLab::value);
        Edge.range("centred", BEGUN, 0, 1, "0 0", ToeplitzLab::centred);
        Edge.beyond("digit", Check.INDEX, BEGUN, 0, -1, (lab, k) -> lab.digit(k, 0));
    }

    /** 31: from 0 to mostDigits() */
    private static void digits() {
        Edge.asked("digits", 0, lifted(single(31, 1, 1), 0), ToeplitzLab::digits);
        Edge.asked("digits", 1, lifted(single(31, 1, 1), 1), ToeplitzLab::digits);
        Edge.asked("digits", 8, lifted(single(31, 1, 1), 8), ToeplitzLab::digits);
        ToeplitzLab lab = lifted(single(2, 1, 1), 39).make();
        Check.same("digits", 39, lab.digits());
        Check.throwing("a lift more", Check.ARGUMENT, lab::lift);
        Check.same("digits", 39, lab.digits());
    }

    /** Section 3: "at most as many digits k as PRIME to the power of k is not greater than 10^12" */
    private static void mostDigits() {
        for (int prime : PRIMES) {
            int most = Check.lab("toeplitz 1 prime " + prime).mostDigits();
            long power = 1;
            for (int k = 0; k < most; k++) {
                power *= prime;
            }
            Check.same("mostDigits of " + prime + " has room", true, power <= 1000000000000L);
            Check.same("one more has not", true, power * prime > 1000000000000L);
            Edge.asked("with one digit", most, lifted(single(prime, 1, 7), 1), ToeplitzLab::mostDigits);
            Check.same("with all digits", most, lifted(single(prime, 1, 7), most).make().mostDigits());
        }
        Edge.asked("mostDigits where no lift is possible", 17, SINGULAR, ToeplitzLab::mostDigits);
    }

    /** 33: "if there is no such digit or row"; "from 0 for the first one" */
    private static void digitBounds() {
        Edge.Making four = lifted(RefinementTest.SMALL, 4);
        Edge.range("a digit", four, 0, 3, "4 2 0 0", (lab, k) -> lab.digit(k, 0));
        Edge.range("a digit", four, 0, 3, "1 3 4 4", (lab, k) -> lab.digit(k, 1));
        Edge.range("a row", four, 0, 1, "4 1", (lab, i) -> lab.digit(0, i));
        Edge.range("a row", four, 0, 1, "0 4", (lab, i) -> lab.digit(3, i));
        Edge.range("one digit", lifted(RefinementTest.SMALL, 1), 0, 0, "4", (lab, k) -> lab.digit(k, 0));
        Edge.beyond("row and digit", Check.INDEX, four, 0, 3, (lab, k) -> lab.digit(k, k));
        ToeplitzLab last = lifted(single(2, 1, -1), 39).make();
        Check.same("the last digit that there can be", 1, last.digit(38, 0));
        Check.throwing("the one behind", Check.INDEX, () -> last.digit(39, 0));
        last.undo();
        Check.throwing("a digit that was undone", Check.INDEX, () -> last.digit(38, 0));
        Check.same("the one before", 1, last.digit(37, 0));
    }

    /** 34 to 39: "if there is no such row" */
    private static void rowBounds() {
        Edge.Making four = lifted(RefinementTest.SMALL, 4);
        Edge.range("residual", four, 0, 1, "-3 -2", ToeplitzLab::residual);
        Edge.range("value", four, 0, 1, "14 616", ToeplitzLab::value);
        Edge.range("centred", four, 0, 1, "14 -9", ToeplitzLab::centred);
        Edge.range("numerator", four, 0, 1, "14 -9", ToeplitzLab::numerator);
        Edge.range("denominator", four, 0, 1, "1 1", ToeplitzLab::denominator);
        Edge.range("quotient", four, 0, 1, "14.0 -9.0", ToeplitzLab::quotient);
        Edge.Making seven = lifted("toeplitz 7 prime 31;diagonal 0 1;side 0 1;side 6 -2", 1);
        Edge.range("residual", seven, 0, 6, "0 0 0 0 0 0 -1", ToeplitzLab::residual);
        Edge.range("value", seven, 0, 6, "1 0 0 0 0 0 29", ToeplitzLab::value);
        Edge.range("centred", seven, 0, 6, "1 0 0 0 0 0 -2", ToeplitzLab::centred);
        Edge.range("numerator", seven, 0, 6, "1 0 0 0 0 0 -2", ToeplitzLab::numerator);
        Edge.range("denominator", seven, 0, 6, "1 1 1 1 1 1 1", ToeplitzLab::denominator);
        Edge.range("quotient", seven, 0, 6, "1.0 0.0 0.0 0.0 0.0 0.0 -2.0", ToeplitzLab::quotient);
    }

    /** 37 and 39: where there is neither the row nor a fraction, the exception for the row is thrown. */
    private static void rowIsTestedFirst() {
        for (int lifts : new int[] {0, 3}) {
            Edge.Making none = lifted(RefinementTest.SMALL, lifts);
            Edge.beyond("numerator", Check.INDEX, none, 0, 1, ToeplitzLab::numerator);
            Edge.beyond("quotient", Check.INDEX, none, 0, 1, ToeplitzLab::quotient);
            Edge.beyond("denominator", Check.INDEX, none, 0, 1, ToeplitzLab::denominator);
            for (int i = 0; i < 2; i++) {
                int row = i;
                Edge.refused("numerator", Check.ARGUMENT, none, lab -> lab.numerator(row));
                Edge.refused("quotient", Check.ARGUMENT, none, lab -> lab.quotient(row));
                Edge.asked("denominator", 0, none, lab -> lab.denominator(row));
            }
        }
    }

    /** 36: "greater than -M / 2, but not greater than M / 2 (compared exactly)", for all X below M */
    private static void centredSmall() {
        for (int[] sort : new int[][] {{2, 1}, {2, 2}, {2, 3}, {2, 4}, {3, 1}, {3, 2}, {5, 1}, {7, 1}, {31, 1}}) {
            int power = 1;
            for (int k = 0; k < sort[1]; k++) {
                power *= sort[0];
            }
            for (int x = 0; x < power; x++) {
                ToeplitzLab lab = lifted(single(sort[0], 1, x), sort[1]).make();
                Check.same("value", (long) x, lab.value(0));
                long due = x <= power - x ? x : x - power;
                Check.same("centred " + x + " of " + power, due, lab.centred(0));
            }
        }
        Edge.asked("M / 2", 2L, lifted(single(2, 1, 2), 2), lab -> lab.centred(0));
        Edge.asked("beyond M / 2", -1L, lifted(single(2, 1, 3), 2), lab -> lab.centred(0));
        Edge.asked("before M / 2", 1L, lifted(single(2, 1, 1), 2), lab -> lab.centred(0));
    }

    /** 35 and 36: the greatest M is 2 to the power of 39; its half is 2 to the power of 38. */
    private static void centredLarge() {
        String ladder = "toeplitz 7 prime 2;diagonal 0 1;diagonal 1 -32;side 0 ";
        long half = 1L << 38;
        ToeplitzLab lab = lifted(ladder + 256, 39).make();
        Check.same("value M / 2", half, lab.value(6));
        Check.same("centred M / 2", half, lab.centred(6));
        lab = lifted(ladder + -256, 39).make();
        Check.same("value -M / 2", half, lab.value(6));
        Check.same("centred -M / 2", half, lab.centred(6));
        lab = lifted(ladder + 257, 39).make();
        Check.same("value beyond M / 2", half + (1L << 30), lab.value(6));
        Check.same("centred beyond M / 2", (1L << 30) - half, lab.centred(6));
        lab = lifted(ladder + 255, 39).make();
        Check.same("centred before M / 2", half - (1L << 30), lab.centred(6));
        lab = lifted(single(2, 1, -1), 39).make();
        Check.same("the greatest value", (1L << 39) - 1, lab.value(0));
        Check.same("centred", -1L, lab.centred(0));
    }

    /** Section 3: "Without digits there is no fraction." */
    private static void noDigitNoFraction() {
        Edge.Making zero = Edge.of("toeplitz 2 prime 2;diagonal 0 1");
        Edge.asked("denominator", "0 0", zero, lab -> Check.row(2, lab::denominator));
        Edge.refused("numerator", Check.ARGUMENT, zero, lab -> lab.numerator(0));
        Edge.refused("quotient", Check.ARGUMENT, zero, lab -> lab.quotient(1));
        Edge.asked("isExact", false, zero, ToeplitzLab::isExact);
        Edge.Making one = lifted("toeplitz 2 prime 2;diagonal 0 1", 1);
        Edge.asked("denominator", "1 1", one, lab -> Check.row(2, lab::denominator));
        Edge.asked("numerator", "0 0", one, lab -> Check.row(2, lab::numerator));
        Edge.asked("isExact", true, one, ToeplitzLab::isExact);
    }

    private static void fraction(int prime, int lifts, int entry, int side, String due) {
        Edge.asked(side + " / " + entry + " with " + lifts + " digits of " + prime, due,
                lifted(single(prime, entry, side), lifts), EdgeRefinementTest::fractions);
    }

    /** Section 3: "as long as 2 * s * s is greater than M": the numerators just not too great, and the next. */
    private static void greatestNumerators() {
        fraction(2, 1, 1, 1, "1/1");
        fraction(2, 2, 1, 1, "1/1");
        fraction(2, 3, 1, 2, "2/1");
        fraction(2, 3, 1, 3, "none");
        fraction(2, 5, 1, 3, "3/1");
        fraction(2, 5, 1, 4, "4/1");
        fraction(2, 5, 1, 5, "none");
        fraction(3, 1, 1, 1, "1/1");
        fraction(3, 1, 1, 2, "-1/1");
        fraction(5, 3, 1, 7, "7/1");
        fraction(5, 3, 1, 8, "none");
        fraction(5, 3, 1, -7, "-7/1");
        fraction(5, 3, 1, -8, "none");
        fraction(7, 2, 1, 4, "4/1");
        fraction(7, 2, 1, 5, "none");
    }

    /** Section 3: no fraction "if 2 * v * v is greater than M": the denominators just not too great, and the next. */
    private static void greatestDenominators() {
        fraction(3, 7, 32, 1, "1/32");
        fraction(3, 7, 34, 1, "none");
        fraction(3, 8, 34, 1, "1/34");
        fraction(5, 3, 7, 1, "1/7");
        fraction(5, 3, 8, 1, "none");
        fraction(5, 3, -7, 1, "-1/7");
        fraction(5, 4, 8, 1, "1/8");
        fraction(7, 2, 4, 1, "1/4");
        fraction(7, 2, 5, 1, "none");
        fraction(7, 3, 5, 1, "1/5");
        ToeplitzLab last = lifted(LAST_DENOMINATOR, 8).make();
        Check.same("653027", "-12693/653027 -4662/653027 -13296/653027 -13304/653027", fractions(last));
        Check.same("is exact", true, last.isExact());
        ToeplitzLab next = lifted(NEXT_DENOMINATOR, 8).make();
        Check.same("a part of 653028", 163257, next.denominator(0));
        Check.same("653028", "0 0 0", Check.row(3, i -> next.denominator(i + 1)));
        Check.same("is not exact", false, next.isExact());
    }

    /** Section 3: no fraction "if PRIME divides v" */
    private static void primeInDenominator() {
        fraction(2, 3, 1, 4, "none");
        fraction(2, 4, 1, 8, "none");
        fraction(3, 2, 1, 9, "0/1");
        fraction(3, 3, 1, 9, "none");
        fraction(3, 4, 1, 9, "none");
        fraction(3, 5, 1, 9, "9/1");
        fraction(3, 3, 2, 1, "1/2");
    }

    /** Section 3: "both with the opposite sign if v is negative" */
    private static void signs() {
        fraction(5, 2, 3, 1, "1/3");
        fraction(5, 2, -3, 1, "-1/3");
        fraction(5, 2, 3, -1, "-1/3");
        fraction(5, 2, -3, -1, "1/3");
        fraction(5, 2, 3, 0, "0/1");
        fraction(7, 3, 50, 25, "1/2");
        fraction(7, 3, -50, 25, "-1/2");
        fraction(31, 3, 50, 49, "49/50");
    }

    /** 39: "the numerator, converted to a double, divided by the denominator, converted to a double" */
    private static void quotients() {
        Edge.asked("zero", 0.0, lifted(single(5, 3, 0), 2), lab -> lab.quotient(0));
        Edge.asked("a third", 1.0 / 3.0, lifted(single(5, 3, 1), 2), lab -> lab.quotient(0));
        Edge.asked("a negative third", -1.0 / 3.0, lifted(single(5, 3, -1), 2), lab -> lab.quotient(0));
        Edge.asked("a whole number", -7.0, lifted(single(5, 1, -7), 3), lab -> lab.quotient(0));
        Edge.asked("one", 1.0, lifted(single(2, 1, 1), 1), lab -> lab.quotient(0));
        Check.same("the greatest denominator", -13304.0 / 653027.0, lifted(LAST_DENOMINATOR, 8).make().quotient(3));
        Edge.refused("none", Check.ARGUMENT, lifted(single(5, 8, 1), 3), lab -> lab.quotient(0));
    }

    /** Section 3: exact "if there is one for each component" */
    private static void eachComponent() {
        for (int missing = 0; missing < 7; missing++) {
            StringBuilder text = new StringBuilder("toeplitz 7 prime 7;diagonal 0 1");
            StringBuilder due = new StringBuilder();
            for (int i = 0; i < 7; i++) {
                text.append(";side ").append(i).append(i == missing ? " 5" : " 4");
                due.append(i == 0 ? "" : " ").append(i == missing ? 0 : 1);
            }
            ToeplitzLab two = lifted(text.toString(), 2).make();
            Check.same("denominators", due.toString(), Check.row(7, two::denominator));
            Check.same("isExact", false, two.isExact());
            two.lift();
            Check.same("isExact with a digit more", true, two.isExact());
        }
    }

    /** Section 3: "the least common multiple of their denominators is at most 10^9" */
    private static void commonMultiple() {
        ToeplitzLab last = lifted(LAST_MULTIPLE, 8).make();
        Check.same("denominators", "333667 2997 333667 2997 333667 2997 333667", Check.row(7, last::denominator));
        Check.same("999999999 is not too great", true, last.isExact());
        ToeplitzLab next = lifted(NEXT_MULTIPLE, 8).make();
        Check.same("denominators", "578369 1729 578369 133 52579 1729 578369", Check.row(7, next::denominator));
        Check.same("numerators", "-1729 -425 -11439 -6 169 376 10767", Check.row(7, next::numerator));
        Check.same("1000000001 is too great", false, next.isExact());
        Edge.asked("liftsTo", 8, Edge.of(LAST_MULTIPLE), ToeplitzLab::liftsTo);
        Edge.asked("liftsTo", -1, Edge.of(NEXT_MULTIPLE), ToeplitzLab::liftsTo);
    }

    /** Section 3: "T times the vector of the fractions is b", in the first row as in the last */
    private static void eachEquation() {
        for (int wrong = 0; wrong < 7; wrong++) {
            String text = "toeplitz 7 prime 2;diagonal 0 1;side " + wrong + " 2";
            Edge.Making one = lifted(text, 1);
            Edge.asked("fractions", "0/1 0/1 0/1 0/1 0/1 0/1 0/1", one, EdgeRefinementTest::fractions);
            Edge.asked("isExact", false, one, ToeplitzLab::isExact);
            Edge.asked("isExact with two digits more", true, lifted(text, 3), ToeplitzLab::isExact);
        }
        Edge.asked("fractions", "3/2 -2/3", lifted(RefinementTest.SMALL, 2), EdgeRefinementTest::fractions);
        Edge.asked("isExact", false, lifted(RefinementTest.SMALL, 2), ToeplitzLab::isExact);
    }

    /** The doubled square of a numerator is M itself, which is the greatest M that there is. */
    private static void lastDigitOfAll() {
        for (String sign : new String[] {"", "-"}) {
            ToeplitzLab lab = Check.lab(LADDER.replace("side 0 2", "side 0 " + sign + 2));
            Check.same("liftsTo", 39, lab.liftsTo());
            Check.same("all but one", 38, lab.refine(38));
            Check.same("not exact yet", false, lab.isExact());
            Check.same("one more", 1, lab.liftsTo());
            Check.same("lift", 39, lab.lift());
            Check.same("exact", true, lab.isExact());
            Check.same("numerator", Integer.valueOf(sign + 524288), lab.numerator(6));
            Check.same("none more", 0, lab.liftsTo());
        }
        ToeplitzLab next = Check.lab(LADDER.replace("side 0 2", "side 0 3"));
        Check.same("786432 is too great", -1, next.liftsTo());
        Check.same("refine", 39, next.refine(40));
        Check.same("not exact", false, next.isExact());
        Check.same("no lift is possible", -1, next.liftsTo());
    }

    /** 41: "after how many more lifts the fractions would be exact for the first time", "0 if they are" */
    private static void liftsTo() {
        int[][] due = {{2, 0, 1}, {2, 1, 1}, {2, 2, 3}, {2, 3, 5}, {2, 4, 5}, {2, -1, 2}, {3, 1, 1}, {3, -1, 1},
            {5, 7, 3}, {5, 8, 4}, {7, 4, 2}, {7, 5, 3}, {3, 9, 5}};
        for (int[] row : due) {
            for (int made = 0; made <= row[2] + 1; made++) {
                Edge.Making making = lifted(single(row[0], 1, row[1]), made);
                String what = row[1] + " with " + made + " digits of " + row[0];
                Edge.asked(what, Math.max(0, row[2] - made), making, ToeplitzLab::liftsTo);
                Edge.asked(what, made >= row[2], making, ToeplitzLab::isExact);
            }
        }
        Edge.asked("the last lift that there is", 8, Edge.of(LAST_DENOMINATOR), ToeplitzLab::liftsTo);
        Edge.asked("one would be missing", -1, Edge.of(NEXT_DENOMINATOR), ToeplitzLab::liftsTo);
        Edge.asked("behind the last one", 0, lifted(LAST_DENOMINATOR, 8), ToeplitzLab::liftsTo);
    }

    /** 41: "NONE if they would not be, or if no lift is possible before" */
    private static void liftsToWithoutLifts() {
        Edge.asked("not regular", -1, SINGULAR, ToeplitzLab::liftsTo);
        Edge.asked("not regular, with zeros", -1, Edge.of("toeplitz 1 prime 5;diagonal 0 5"), ToeplitzLab::liftsTo);
        Edge.asked("regular", 1, Edge.of("toeplitz 1 prime 7;diagonal 0 5"), ToeplitzLab::liftsTo);
        Edge.asked("no room", -1, lifted(NEXT_DENOMINATOR, 8), ToeplitzLab::liftsTo);
        Edge.asked("room for one", -1, lifted(NEXT_DENOMINATOR, 7), ToeplitzLab::liftsTo);
        Function<Integer, Integer> left = made -> lifted(LAST_MULTIPLE, made).make().liftsTo();
        Check.same("room for just enough", "8 1 0", left.apply(0) + " " + left.apply(7) + " " + left.apply(8));
    }
}
