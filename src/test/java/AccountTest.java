/** Promises 46 and 47: entries and accountOf. */
public final class AccountTest {
    public static void main(String[] args) {
        ToeplitzLab none = new ToeplitzLab();
        Check.same("entries without a system", 0, none.entries());
        Check.throwing("accountOf", Check.STATE, () -> none.accountOf(-1, 9));
        kept();
        full();
        zero();
        wrongArguments();
        Check.finish();
    }

    private static void kept() {
        ToeplitzLab lab = Check.lab(RefinementTest.SMALL);
        Check.same("entries", 0, lab.entries());
        lab.lift();
        lab.refine(40);
        Check.same("entries", "1 2 0, 2 3 0, 3 3 0, 4 3 1", account(lab));
        lab.refine(1);
        Check.same("no lift, no entry", 4, lab.entries());
        lab.lift();
        Check.same("a lift behind the exact one", "5 3 1", entry(lab, 4));
        lab.setSide(0, 0);
        lab.setPrime(3);
        lab.lift();
        Check.same("entries stay when the refinement begins anew", 6, lab.entries());
        Check.same("the new one", "1 2 0", entry(lab, 5));
        Check.same("the old one", "4 3 1", entry(lab, 3));
        lab.undo();
        Check.same("undone", 5, lab.entries());
    }

    private static void full() {
        ToeplitzLab lab = Check.lab("toeplitz 1 prime 2;diagonal 0 1;side 0 -999");
        for (int k = 1; k <= 30; k++) {
            lab.lift();
        }
        Check.same("entries", 30, lab.entries());
        Check.same("the first", "1 500 0", entry(lab, 0));
        Check.same("the last", "30 1 1", entry(lab, 29));
        Check.same("the first that is exact", 20, firstExact(lab));
        lab.lift();
        Check.same("no more entries", 30, lab.entries());
        Check.same("the last", "30 1 1", entry(lab, 29));
        Check.throwing("entry 30", Check.INDEX, () -> lab.accountOf(30, 0));
        lab.undo();
        Check.same("entries", 30, lab.entries());
        lab.undo();
        Check.same("entries", 29, lab.entries());
    }

    private static void zero() {
        ToeplitzLab lab = Check.lab("toeplitz 7 prime 2;diagonal 0 1");
        lab.lift();
        Check.same("nothing is left", "1 0 1", entry(lab, 0));
        lab.setSide(6, 8);
        lab.lift();
        Check.same("the last row has the greatest", "1 4 0", entry(lab, 1));
    }

    private static int firstExact(ToeplitzLab lab) {
        for (int k = 0; k < lab.entries(); k++) {
            if (lab.accountOf(k, 2) == 1) {
                return k;
            }
        }
        return -1;
    }

    private static void wrongArguments() {
        ToeplitzLab lab = Check.lab(RefinementTest.SMALL);
        lab.lift();
        for (int k : new int[] {-1, 1, 30, Integer.MIN_VALUE, Integer.MAX_VALUE}) {
            Check.throwing("entry " + k, Check.INDEX, () -> lab.accountOf(k, 0));
            Check.throwing("entry and property " + k, Check.INDEX, () -> lab.accountOf(k, 3));
        }
        for (int what : new int[] {-1, 3, Integer.MIN_VALUE, Integer.MAX_VALUE}) {
            Check.throwing("property " + what, Check.ARGUMENT, () -> lab.accountOf(0, what));
        }
    }

    private static String entry(ToeplitzLab lab, int k) {
        return Check.row(3, what -> lab.accountOf(k, what));
    }

    private static String account(ToeplitzLab lab) {
        StringBuilder all = new StringBuilder();
        for (int k = 0; k < lab.entries(); k++) {
            all.append(k == 0 ? "" : ", ").append(entry(lab, k));
        }
        return all.toString();
    }
}
