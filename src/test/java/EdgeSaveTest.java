/** The edges of promises 58 and 59: save and restore. */
public final class EdgeSaveTest {
    private static final String TEXT = RefinementTest.SMALL;

    public static void main(String[] args) {
        noSystem();
        saveBounds();
        restoreBounds();
        nothingSaved();
        slotsApart();
        inPlaceOfTheOlder();
        staysSaved();
        nothingUndone();
        wholeState();
        accountOfItsOwn();
        sizes();
        afterLoad();
        afterErrors();
        Check.finish();
    }

    /** 58: "if there is no system" is listed first; 59: "if there is no such slot" is. */
    private static void noSystem() {
        for (int slot : new int[] {Integer.MIN_VALUE, -1, 0, 1, 2, Integer.MAX_VALUE}) {
            Edge.refused("save", Check.STATE, ToeplitzLab::new, lab -> lab.save(slot));
        }
        Edge.beyond("restore", Check.INDEX, ToeplitzLab::new, 0, 1, ToeplitzLab::restore);
        Edge.refused("restore", Check.STATE, ToeplitzLab::new, lab -> lab.restore(0));
        Edge.refused("restore", Check.STATE, ToeplitzLab::new, lab -> lab.restore(1));
    }

    /** 58: "0 or 1"; "Returns SIZE." */
    private static void saveBounds() {
        Edge.beyond("save", Check.INDEX, Edge::used, 0, 1, ToeplitzLab::save);
        Edge.beyond("save", Check.INDEX, Edge.of(TEXT), 0, 1, ToeplitzLab::save);
        for (int slot = 0; slot < 2; slot++) {
            ToeplitzLab lab = Check.lab(TEXT);
            int other = 1 - slot;
            Check.same("save", 2, lab.save(slot));
            Check.same("state", Check.state(Check.lab(TEXT)), Check.state(lab));
            Check.throwing("the other slot", Check.STATE, () -> lab.restore(other));
            Check.same("restore", 2, lab.restore(slot));
        }
    }

    /** 59: "0 or 1"; "Returns SIZE in the restored state." */
    private static void restoreBounds() {
        Edge.beyond("restore", Check.INDEX, Edge::used, 0, 1, ToeplitzLab::restore);
        Edge.beyond("restore with nothing saved", Check.INDEX, Edge.of(TEXT), 0, 1, ToeplitzLab::restore);
        Check.same("restore", 3, Edge.used().restore(0));
        Check.same("restore", 3, Edge.used().restore(1));
    }

    /** 59: "if nothing is saved there" */
    private static void nothingSaved() {
        for (int slot = 0; slot < 2; slot++) {
            int saved = slot;
            int other = 1 - slot;
            Edge.Making one = () -> {
                ToeplitzLab lab = Check.lab(TEXT);
                lab.save(saved);
                lab.setProbe(0, 4);
                return lab;
            };
            Edge.refused("the other slot", Check.STATE, one, lab -> lab.restore(other));
            Check.same("the slot itself", 2, one.make().restore(saved));
        }
    }

    private static void slotsApart() {
        ToeplitzLab lab = Check.lab("toeplitz 1 prime 2;diagonal 0 1");
        lab.setProbe(0, 10);
        lab.save(0);
        lab.setProbe(0, 11);
        lab.save(1);
        lab.setProbe(0, 12);
        lab.restore(0);
        Check.same("slot 0", 10, lab.probe(0));
        lab.restore(1);
        Check.same("slot 1", 11, lab.probe(0));
        lab.restore(0);
        Check.same("slot 0", 10, lab.probe(0));
    }

    /** 58: "in place of what was saved there" */
    private static void inPlaceOfTheOlder() {
        ToeplitzLab lab = Check.lab("toeplitz 2 prime 2;diagonal 0 1");
        lab.lift();
        lab.save(0);
        lab.setSide(1, 9);
        lab.shrink();
        Check.same("save", 1, lab.save(0));
        lab.grow(1, 1, 1);
        Check.same("restore", 1, lab.restore(0));
        Check.same("state", "1 prime 2 diagonals 1 sides 0 probes 0 digits 0 values 0 residuals 0 account (1 0 1)",
                Check.state(lab));
    }

    /** 59: "it stays saved": what comes behind the restore does not touch it. */
    private static void staysSaved() {
        ToeplitzLab lab = Check.lab(TEXT);
        lab.lift();
        lab.save(1);
        String saved = Check.state(lab);
        for (int again = 0; again < 3; again++) {
            lab.setDiagonal(0, 5 + again);
            lab.setProbe(1, 6 + again);
            lab.lift();
            lab.grow(1, 2, 3);
            Check.same("restore", 2, lab.restore(1));
            Check.same("state", saved, Check.state(lab));
        }
        lab.lift();
        lab.undo();
        Check.same("behind an undo", 2, lab.restore(1));
        Check.same("state", saved, Check.state(lab));
    }

    /** 59: "Nothing can be undone afterwards.", even where the state is the one that there was. */
    private static void nothingUndone() {
        ToeplitzLab lab = Check.lab(TEXT);
        for (int k = 0; k < 8; k++) {
            lab.setProbe(0, k);
        }
        lab.save(0);
        Check.same("save is no change", 8, lab.undoable());
        lab.restore(0);
        Check.same("undoable", 0, lab.undoable());
        Check.throwing("undo", Check.STATE, lab::undo);
        Check.same("probe", 7, lab.probe(0));
    }

    /** Section 7: "SIZE, PRIME, the diagonals, the right side, the probe, the refinement and the account" */
    private static void wholeState() {
        ToeplitzLab lab = Edge.used();
        ToeplitzLab twin = Edge.used();
        Check.same("save", 3, lab.save(1));
        lab.setPrime(2);
        lab.setDiagonal(-2, -50);
        lab.setSide(2, 999);
        lab.setProbe(1, 999);
        lab.shrink();
        lab.shrink();
        lab.setDiagonal(0, 1);
        lab.refine(40);
        Check.same("restore", 3, lab.restore(1));
        Check.same("state", Check.state(twin), Check.state(lab));
        Check.same("buffered", 20, lab.buffered());
        Check.same("parseError", 2, lab.parseError());
        Check.same("errorPosition", 17, lab.errorPosition());
        Check.same("the lift behind it", twin.lift(), lab.lift());
        Check.same("state", Check.state(twin), Check.state(lab));
    }

    /** Section 7: the account is a part of what is saved, also where another one has been begun since. */
    private static void accountOfItsOwn() {
        ToeplitzLab lab = Check.lab("toeplitz 1 prime 2;diagonal 0 1;side 0 7");
        lab.lift();
        lab.save(0);
        lab.undo();
        lab.setSide(0, -100);
        lab.lift();
        Check.same("the other account", "1 50 0", Check.row(3, what -> lab.accountOf(0, what)));
        lab.lift();
        lab.restore(0);
        Check.same("entries", 1, lab.entries());
        Check.same("the account that was saved", "1 3 0", Check.row(3, what -> lab.accountOf(0, what)));
    }

    /** 58 and 59: what is returned, from the smallest SIZE to the greatest */
    private static void sizes() {
        ToeplitzLab lab = Check.lab("toeplitz 1 prime 2;diagonal 0 1");
        Check.same("save", 1, lab.save(0));
        for (int size = 2; size <= 7; size++) {
            lab.grow(size, -size, size);
        }
        Check.same("save", 7, lab.save(1));
        String seven = Check.state(lab);
        Check.same("restore", 1, lab.restore(0));
        Check.same("restore", 7, lab.restore(1));
        Check.same("state", seven, Check.state(lab));
        Check.same("restore", 1, lab.restore(0));
        Check.same("size", 1, lab.size());
    }

    /** 3: load leaves no state saved, in neither slot. */
    private static void afterLoad() {
        for (int slot = 0; slot < 2; slot++) {
            ToeplitzLab lab = Edge.used();
            lab.load(20);
            int which = slot;
            Check.throwing("restore", Check.STATE, () -> lab.restore(which));
            Check.same("save", 2, lab.save(which));
            Check.throwing("the other one", Check.STATE, () -> lab.restore(1 - which));
            Check.same("restore", 2, lab.restore(which));
        }
    }

    /** 3: a load that throws leaves both slots. */
    private static void afterErrors() {
        ToeplitzLab lab = Edge.used();
        Check.throwing("load", Check.INDEX, () -> lab.load(21));
        Edge.fail(lab, "!");
        Check.same("restore", 3, lab.restore(0));
        Check.same("digits", 1, lab.digits());
        Check.same("restore", 3, lab.restore(1));
        Check.same("probe", 3, lab.probe(2));
    }
}
