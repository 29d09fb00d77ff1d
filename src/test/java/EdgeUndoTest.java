/** The edges of promises 56 and 57: undo and undoable. */
public final class EdgeUndoTest {
    private static final String TEXT = RefinementTest.SMALL;
    /** Each method that is documented as a change, in an order in which all of them succeed. */
    private static final Edge.Use[] CHANGES = {ToeplitzLab::lift, lab -> lab.setProbe(1, 5), lab -> lab.refine(40),
        lab -> lab.setDiagonal(-1, 7), lab -> lab.grow(1, 2, 3), lab -> lab.setPrime(13), lab -> lab.setSide(2, 4),
        ToeplitzLab::shrink, ToeplitzLab::lift, lab -> lab.refine(1), lab -> lab.setProbe(0, 6)};

    public static void main(String[] args) {
        nothingToUndo();
        allUndone();
        upToEight();
        moreThanEight();
        behindUndo();
        sameKind();
        refusedCalls();
        savesAndQuestions();
        afterRestore();
        afterLoad();
        afterErrors();
        Check.finish();
    }

    private static ToeplitzLab changed(int changes) {
        ToeplitzLab lab = Check.lab(TEXT);
        for (int k = 0; k < changes; k++) {
            CHANGES[k].answer(lab);
        }
        return lab;
    }

    /** 56: "if there is none": a new object, a new system, and one of which all is undone */
    private static void nothingToUndo() {
        Edge.refused("a new object", Check.STATE, ToeplitzLab::new, ToeplitzLab::undo);
        Edge.asked("undoable", 0, ToeplitzLab::new, ToeplitzLab::undoable);
        Edge.refused("a new system", Check.STATE, Edge.of(TEXT), ToeplitzLab::undo);
        Edge.asked("undoable", 0, Edge.of(TEXT), ToeplitzLab::undoable);
        Edge.Making undone = () -> {
            ToeplitzLab lab = changed(1);
            Check.same("undo", 0, lab.undo());
            return lab;
        };
        Edge.refused("all undone", Check.STATE, undone, ToeplitzLab::undo);
        Edge.asked("undoable", 0, undone, ToeplitzLab::undoable);
    }

    /** 56: "Undoes the latest change that has not been undone."; the whole state is as it was before it. */
    private static void allUndone() {
        for (int changes = 1; changes <= CHANGES.length; changes++) {
            ToeplitzLab lab = changed(changes);
            lab.undo();
            Check.same("one of " + changes + " undone", Check.state(changed(changes - 1)), Check.state(lab));
        }
    }

    /** 57: "0 to 8"; 56: "Returns the number of changes that can still be undone." */
    private static void upToEight() {
        for (int changes = 0; changes <= 8; changes++) {
            ToeplitzLab lab = changed(changes);
            Check.same("undoable", changes, lab.undoable());
            for (int left = changes - 1; left >= 0; left--) {
                Check.same("undo", left, lab.undo());
                Check.same("undoable", left, lab.undoable());
                Check.same("what was before", Check.state(changed(left)), Check.state(lab));
            }
            Check.throwing("undo", Check.STATE, lab::undo);
            Check.same("state", Check.state(Check.lab(TEXT)), Check.state(lab));
        }
    }

    /** Section 7: "Only the latest 8 changes [...] are kept" */
    private static void moreThanEight() {
        for (int changes = 9; changes <= CHANGES.length; changes++) {
            ToeplitzLab lab = changed(changes);
            Check.same("undoable", 8, lab.undoable());
            for (int left = 7; left >= 0; left--) {
                Check.same("undo", left, lab.undo());
            }
            Check.throwing("a ninth undo", Check.STATE, lab::undo);
            Check.same("the oldest that is kept", Check.state(changed(changes - 8)), Check.state(lab));
        }
    }

    /** 56: a change that was undone is gone; the next one stands in its place. */
    private static void behindUndo() {
        ToeplitzLab lab = changed(11);
        for (int k = 0; k < 3; k++) {
            lab.undo();
        }
        Check.same("undoable", 5, lab.undoable());
        for (int k = 1; k <= 5; k++) {
            lab.setProbe(0, 100 + k);
            Check.same("undoable", Math.min(8, 5 + k), lab.undoable());
        }
        for (int left = 7; left >= 0; left--) {
            Check.same("undo", left, lab.undo());
            if (left >= 3) {
                Check.same("probe", left == 3 ? 0 : 100 + left - 3, lab.probe(0));
            }
        }
        Check.same("the oldest that is kept", Check.state(changed(5)), Check.state(lab));
        Check.throwing("undo", Check.STATE, lab::undo);
    }

    /** Section 7: "each call of one of them that succeeds is a change, even if nothing is different then" */
    private static void sameKind() {
        Edge.Use[] again = {lab -> lab.setDiagonal(0, 2), lab -> lab.setSide(0, 1), lab -> lab.setProbe(0, 0),
            lab -> lab.setPrime(5)};
        for (Edge.Use change : again) {
            ToeplitzLab lab = Check.lab(TEXT);
            String before = Check.state(lab);
            for (int k = 1; k <= 9; k++) {
                change.answer(lab);
                Check.same("undoable", Math.min(8, k), lab.undoable());
                Check.same("nothing is different", before, Check.state(lab));
            }
        }
        ToeplitzLab exact = Check.lab(TEXT);
        for (int k = 1; k <= 9; k++) {
            Check.same("refine", k == 1 ? 4 : 0, exact.refine(40));
            Check.same("undoable", Math.min(8, k), exact.undoable());
        }
        for (int left = 7; left >= 0; left--) {
            exact.undo();
            Check.same("the refine that made lifts is no more kept", 4, exact.digits());
        }
    }

    /** Section 7: "A call of a method that throws an exception changes nothing" */
    private static void refusedCalls() {
        Edge.Making eight = () -> changed(8);
        Edge.refused("setDiagonal", Check.INDEX, eight, lab -> lab.setDiagonal(2, 0));
        Edge.refused("setSide", Check.ARGUMENT, eight, lab -> lab.setSide(0, 1000));
        Edge.refused("setProbe", Check.INDEX, eight, lab -> lab.setProbe(2, 0));
        Edge.refused("setPrime", Check.ARGUMENT, eight, lab -> lab.setPrime(1));
        Edge.refused("grow", Check.ARGUMENT, eight, lab -> lab.grow(0, 51, 0));
        Edge.refused("shrink", Check.ARGUMENT, Edge.of("toeplitz 1 prime 2"), ToeplitzLab::shrink);
        Edge.refused("refine", Check.ARGUMENT, eight, lab -> lab.refine(41));
        Edge.refused("lift", Check.ARGUMENT, () -> {
            ToeplitzLab lab = changed(8);
            lab.setDiagonal(-1, 0);
            lab.setDiagonal(0, 13);
            return lab;
        }, ToeplitzLab::lift);
    }

    /** 57: save and the questions are no changes, and undo leaves what was saved. */
    private static void savesAndQuestions() {
        ToeplitzLab lab = changed(7);
        lab.save(0);
        lab.save(1);
        lab.minorIf(0, 1, 1);
        lab.liftsTo();
        lab.isExact();
        lab.append(0, 0, 0, 0, 0);
        Check.same("undoable", 7, lab.undoable());
        lab.undo();
        Check.same("restore", 3, lab.restore(0));
        Check.same("what was saved", Check.state(changed(7)), Check.state(lab));
    }

    /** Section 7: "since the last successful call of load or restore" */
    private static void afterRestore() {
        ToeplitzLab lab = changed(3);
        lab.save(0);
        lab.setProbe(0, 1);
        lab.setProbe(0, 2);
        Check.throwing("restore of an empty slot", Check.STATE, () -> lab.restore(1));
        Check.throwing("restore of no slot", Check.INDEX, () -> lab.restore(2));
        Check.same("undoable", 5, lab.undoable());
        lab.restore(0);
        Check.same("undoable", 0, lab.undoable());
        Check.throwing("undo", Check.STATE, lab::undo);
        for (int k = 1; k <= 9; k++) {
            lab.setProbe(0, 10 + k);
            Check.same("undoable", Math.min(8, k), lab.undoable());
        }
        for (int left = 7; left >= 0; left--) {
            Check.same("undo", left, lab.undo());
        }
        Check.same("probe", 11, lab.probe(0));
    }

    /** Section 7: the same for load. */
    private static void afterLoad() {
        ToeplitzLab lab = changed(8);
        lab.load(Check.put(lab, "toeplitz 1 prime 2"));
        Check.same("undoable", 0, lab.undoable());
        Check.throwing("undo", Check.STATE, lab::undo);
        lab.setProbe(0, 1);
        Check.same("undo", 0, lab.undo());
        Check.same("state", Check.state(Check.lab("toeplitz 1 prime 2")), Check.state(lab));
    }

    /** Section 7: a load that throws leaves all changes. */
    private static void afterErrors() {
        ToeplitzLab lab = changed(8);
        Edge.fail(lab, "toeplitz 1 prime 2;");
        Check.throwing("load", Check.INDEX, () -> lab.load(1));
        Check.same("undoable", 8, lab.undoable());
        for (int left = 7; left >= 0; left--) {
            Check.same("undo", left, lab.undo());
            Check.same("what was before", Check.state(changed(left)), Check.state(lab));
        }
    }
}
