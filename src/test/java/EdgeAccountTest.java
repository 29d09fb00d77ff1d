/** The edges of promises 46 and 47: entries and accountOf. */
public final class EdgeAccountTest {
    /** Never exact, so that refine makes as many lifts as it may, up to 39. */
    private static final String ENDLESS = EdgeRefinementTest.LADDER.replace("side 0 2", "side 0 3");
    private static final Edge.Making THREE = () -> {
        ToeplitzLab lab = Check.lab(RefinementTest.SMALL);
        lab.refine(3);
        return lab;
    };

    public static void main(String[] args) {
        noSystem();
        empty();
        entryBounds();
        propertyBounds();
        order();
        thirtyLifts();
        refineBeyondThirty();
        keptWhenBegunAnew();
        fullWhenBegunAnew();
        undone();
        residuals();
        exactness();
        Check.finish();
    }

    private static String entry(ToeplitzLab lab, int k) {
        return Check.row(3, what -> lab.accountOf(k, what));
    }

    /** 46: "0 if there is no system"; 47: "if there is no system" is listed first. */
    private static void noSystem() {
        Edge.asked("entries", 0, ToeplitzLab::new, ToeplitzLab::entries);
        for (int number : new int[] {-1, 0, 30}) {
            Edge.refused("accountOf", Check.STATE, ToeplitzLab::new, lab -> lab.accountOf(number, number));
        }
    }

    /** 46: from 0; 47: there is no entry then. */
    private static void empty() {
        Edge.asked("entries", 0, Edge.of(RefinementTest.SMALL), ToeplitzLab::entries);
        Edge.beyond("accountOf", Check.INDEX, Edge.of(RefinementTest.SMALL), 0, -1, (lab, k) -> lab.accountOf(k, 0));
    }

    /** 47: "number of the entry, from 0" */
    private static void entryBounds() {
        Edge.asked("entries", 3, THREE, ToeplitzLab::entries);
        Edge.range("digits", THREE, 0, 2, "1 2 3", (lab, k) -> lab.accountOf(k, 0));
        Edge.range("residuals", THREE, 0, 2, "2 3 3", (lab, k) -> lab.accountOf(k, 1));
        Edge.range("exactness", THREE, 0, 2, "0 0 0", (lab, k) -> lab.accountOf(k, 2));
    }

    /** 47: "0 the number of digits, 1 the greatest absolute value [...], 2 whether the fractions were exact" */
    private static void propertyBounds() {
        Edge.asked("the properties", "3 3 0", THREE, lab -> entry(lab, 2));
        Edge.beyond("property", Check.ARGUMENT, THREE, 0, 2, (lab, what) -> lab.accountOf(0, what));
        Edge.beyond("property", Check.ARGUMENT, THREE, 0, 2, (lab, what) -> lab.accountOf(2, what));
    }

    /** 47: where there is neither the entry nor the property, the exception for the entry is thrown. */
    private static void order() {
        for (int what : new int[] {-1, 3}) {
            Edge.beyond("entry and property", Check.INDEX, THREE, 0, 2, (lab, k) -> lab.accountOf(k, what));
        }
    }

    /** Section 5: "The first 30 entries are kept" */
    private static void thirtyLifts() {
        ToeplitzLab lab = Check.lab(ENDLESS);
        for (int lift = 1; lift <= 39; lift++) {
            lab.lift();
            int due = Math.min(lift, 30);
            Check.same("entries", due, lab.entries());
            Check.same("the last one", due, lab.accountOf(due - 1, 0));
            Check.throwing("the one behind", Check.INDEX, () -> lab.accountOf(due, 0));
        }
        for (int k = 0; k < 30; k++) {
            Check.same("entry " + k, k + 1, lab.accountOf(k, 0));
        }
    }

    /** Section 5: "Each lift (by lift or refine) makes an entry": also where the 30th is not the last one. */
    private static void refineBeyondThirty() {
        for (int lifts : new int[] {1, 29, 30, 31, 39}) {
            ToeplitzLab lab = Check.lab(ENDLESS);
            Check.same("refine", lifts, lab.refine(lifts));
            int due = Math.min(lifts, 30);
            Check.same("entries", due, lab.entries());
            Check.same("the first", 1, lab.accountOf(0, 0));
            Check.same("the last", due, lab.accountOf(due - 1, 0));
            Check.throwing("the one behind", Check.INDEX, () -> lab.accountOf(due, 0));
        }
        ToeplitzLab lab = Check.lab(ENDLESS);
        lab.refine(28);
        lab.refine(1);
        Check.same("entries", 29, lab.entries());
        lab.refine(5);
        Check.same("entries", 30, lab.entries());
        Check.same("the last", 30, lab.accountOf(29, 0));
        Check.same("digits", 34, lab.digits());
    }

    /** Section 5: "entries stay when the refinement begins anew" */
    private static void keptWhenBegunAnew() {
        Edge.Use[] changes = {lab -> lab.setDiagonal(0, 2), lab -> lab.setSide(0, 1), lab -> lab.setPrime(5),
            lab -> lab.grow(0, 0, 0), ToeplitzLab::shrink};
        for (Edge.Use change : changes) {
            ToeplitzLab lab = THREE.make();
            String before = entry(lab, 0) + ", " + entry(lab, 1) + ", " + entry(lab, 2);
            change.answer(lab);
            Check.same("digits", 0, lab.digits());
            Check.same("entries", 3, lab.entries());
            lab.lift();
            Check.same("entries", 4, lab.entries());
            Check.same("the old ones", before, entry(lab, 0) + ", " + entry(lab, 1) + ", " + entry(lab, 2));
            Check.same("the new one", 1, lab.accountOf(3, 0));
        }
    }

    /** Section 5: 30 entries stay the first ones, whatever comes then. */
    private static void fullWhenBegunAnew() {
        ToeplitzLab lab = Check.lab(ENDLESS);
        lab.refine(29);
        lab.setPrime(3);
        lab.refine(2);
        Check.same("entries", 30, lab.entries());
        Check.same("the last", 1, lab.accountOf(29, 0));
        Check.same("the one before", 29, lab.accountOf(28, 0));
        Check.same("digits", 2, lab.digits());
        lab.setPrime(2);
        lab.refine(40);
        Check.same("entries", 30, lab.entries());
        Check.same("the last", 1, lab.accountOf(29, 0));
    }

    /** Section 7: the account is a part of the state, so that an undone lift takes its entry with it. */
    private static void undone() {
        ToeplitzLab lab = Check.lab(ENDLESS);
        lab.refine(29);
        lab.lift();
        lab.lift();
        Check.same("entries", 30, lab.entries());
        lab.undo();
        Check.same("the 31st lift undone", 30, lab.entries());
        lab.undo();
        Check.same("the 30th lift undone", 29, lab.entries());
        Check.throwing("its entry", Check.INDEX, () -> lab.accountOf(29, 0));
        lab.undo();
        Check.same("the refine undone", 0, lab.entries());
        lab.setSide(6, -100);
        lab.lift();
        Check.same("another entry in its place", "1 50 0", entry(lab, 0));
    }

    /** Section 5: "the greatest absolute value of a component of the residual afterwards" */
    private static void residuals() {
        for (int row = 0; row < 7; row++) {
            for (int side : new int[] {-999, -1, 0, 1, 2, 999}) {
                ToeplitzLab lab = Check.lab("toeplitz 7 prime 2;diagonal 0 1;side " + row + " " + side);
                lab.lift();
                int rest = Math.floorDiv(side, 2);
                Check.same("residual of " + side, rest, lab.residual(row));
                Check.same("the greatest", Math.abs(rest), lab.accountOf(0, 1));
            }
        }
        ToeplitzLab lab = Check.lab("toeplitz 3 prime 2;diagonal 0 1;side 0 7;side 1 -9;side 2 8");
        lab.lift();
        Check.same("the greatest is negative", "1 5 0", entry(lab, 0));
    }

    /** Section 5: "and 1 if the fractions are exact then, otherwise 0" */
    private static void exactness() {
        ToeplitzLab lab = Check.lab(RefinementTest.SMALL);
        for (int k = 0; k < 6; k++) {
            lab.lift();
            Check.same("exactness", lab.isExact() ? 1 : 0, lab.accountOf(k, 2));
            Check.same("exactness", k < 3 ? 0 : 1, lab.accountOf(k, 2));
        }
    }
}
