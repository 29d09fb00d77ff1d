/** Promises 58 and 59: save and restore. */
public final class SaveTest {
    public static void main(String[] args) {
        none();
        slots();
        wholeState();
        again();
        wrongArguments();
        Check.finish();
    }

    private static void none() {
        ToeplitzLab lab = new ToeplitzLab();
        Check.throwing("save", Check.STATE, () -> lab.save(0));
        Check.throwing("save in no slot", Check.STATE, () -> lab.save(2));
        Check.throwing("restore", Check.STATE, () -> lab.restore(1));
        Check.throwing("restore of no slot", Check.INDEX, () -> lab.restore(2));
    }

    private static void slots() {
        ToeplitzLab lab = Check.lab(MinorTest.REGULAR);
        Check.same("save", 3, lab.save(0));
        lab.shrink();
        Check.same("save", 2, lab.save(1));
        lab.shrink();
        Check.same("saving is no change", 2, lab.undoable());
        Check.same("restore", 3, lab.restore(0));
        Check.same("size", 3, lab.size());
        Check.same("nothing can be undone", 0, lab.undoable());
        Check.throwing("undo", Check.STATE, lab::undo);
        Check.same("restore", 2, lab.restore(1));
        Check.same("size", 2, lab.size());
    }

    private static void wholeState() {
        ToeplitzLab lab = Check.lab(RefinementTest.SMALL);
        lab.setProbe(1, -8);
        lab.refine(3);
        String saved = Check.state(lab);
        lab.save(1);
        lab.lift();
        lab.setSide(0, 9);
        lab.setDiagonal(0, 9);
        lab.setProbe(0, 9);
        lab.setPrime(3);
        lab.grow(1, 1, 1);
        Check.same("restore", 2, lab.restore(1));
        Check.same("state", saved, Check.state(lab));
        Check.same("it goes on from there", 4, lab.lift());
        Check.same("is exact", true, lab.isExact());
        lab.undo();
        Check.same("undo", saved, Check.state(lab));
    }

    private static void again() {
        ToeplitzLab lab = Check.lab("toeplitz 2 prime 3");
        lab.setProbe(0, 1);
        lab.save(0);
        lab.setProbe(0, 2);
        lab.restore(0);
        lab.setProbe(0, 3);
        Check.same("it stays saved", 2, lab.restore(0));
        Check.same("as it was", 1, lab.probe(0));
        lab.setProbe(0, 4);
        lab.save(0);
        lab.undo();
        Check.same("undo", 1, lab.probe(0));
        lab.restore(0);
        Check.same("in place of what was saved there; undo does not touch it", 4, lab.probe(0));
        lab.load(Check.put(lab, "toeplitz 1 prime 2"));
        Check.throwing("load empties the slots", Check.STATE, () -> lab.restore(0));
        lab.save(1);
        Check.throwing("the other one stays empty", Check.STATE, () -> lab.restore(0));
        int length = Check.put(lab, "toeplitz 9");
        Check.throwing("load", Check.ARGUMENT, () -> lab.load(length));
        Check.same("a text with an error does not", 1, lab.restore(1));
    }

    private static void wrongArguments() {
        ToeplitzLab lab = Check.lab("toeplitz 1 prime 2");
        lab.setProbe(0, 1);
        for (int slot : new int[] {-1, 2, Integer.MIN_VALUE, Integer.MAX_VALUE}) {
            Check.throwing("save " + slot, Check.INDEX, () -> lab.save(slot));
            Check.throwing("restore " + slot, Check.INDEX, () -> lab.restore(slot));
        }
        Check.throwing("restore of an empty slot", Check.STATE, () -> lab.restore(0));
        Check.same("nothing is changed", 1, lab.undoable());
    }
}
