/** What the tests of the edges share: calls just at an edge, and calls just beyond it, which are refused. */
final class Edge {
    interface Making {
        ToeplitzLab make();
    }

    interface Use {
        Object answer(ToeplitzLab lab);
    }

    interface Numbered {
        Object answer(ToeplitzLab lab, int number);
    }

    private Edge() {
    }

    static Making of(String text) {
        return () -> Check.lab(text);
    }

    /** A lab with digits, an account, changes, both slots, a parse error and bytes in the buffer. */
    static ToeplitzLab used() {
        ToeplitzLab lab = Check.lab(MinorTest.REGULAR);
        lab.lift();
        lab.save(1);
        lab.setProbe(2, -9);
        lab.setSide(0, 5);
        lab.lift();
        lab.save(0);
        lab.lift();
        fail(lab, "toeplitz 4 prime 6");
        Check.put(lab, "toeplitz 2 prime 13");
        return lab;
    }

    /** Loads a text that has an error. */
    static void fail(ToeplitzLab lab, String text) {
        int length = Check.put(lab, text);
        Check.throwing("load of " + text, Check.ARGUMENT, () -> lab.load(length));
    }

    /** The call answers what is due and changes nothing. */
    static void asked(String what, Object due, Making making, Use call) {
        ToeplitzLab lab = making.make();
        Check.same(what, due, call.answer(lab));
        Check.same(what + ": what stays", story(making.make()), story(lab));
    }

    /** The call throws just what is due and changes nothing. */
    static void refused(String what, Class<?> due, Making making, Use call) {
        ToeplitzLab lab = making.make();
        Check.throwing(what, due, () -> call.answer(lab));
        Check.same(what + ": what stays", story(making.make()), story(lab));
    }

    /** The numbers just beside a range, and those farthest from it, are refused. */
    static void beyond(String what, Class<?> due, Making making, int first, int last, Numbered call) {
        for (int number : new int[] {first - 1, last + 1, Integer.MIN_VALUE, Integer.MAX_VALUE}) {
            refused(what + " " + number, due, making, lab -> call.answer(lab, number));
        }
    }

    /** A question is answered from the first to the last number, and refused beside them. */
    static void range(String what, Making making, int first, int last, String due, Numbered call) {
        asked(what, due, making, lab -> Check.row(last - first + 1, k -> call.answer(lab, first + k)));
        beyond(what, Check.INDEX, making, first, last, call);
    }

    /**
     * All that later calls can tell: the state, the changes to undo, the slots, the parse error and the buffer.
     * An object may be used for 512 calls, so the whole account is told just once.
     */
    static String story(ToeplitzLab lab) {
        StringBuilder all = new StringBuilder();
        all.append(Check.state(lab)).append(" undoable ").append(lab.undoable());
        all.append(" error ").append(lab.parseError()).append(' ').append(lab.errorPosition());
        for (int left = lab.undoable(); left > 0; left--) {
            all.append("\nundo ").append(lab.undo()).append(' ').append(brief(lab));
        }
        for (int slot = 0; slot < 2; slot++) {
            int which = slot;
            all.append("\nrestore ").append(answer(() -> lab.restore(which))).append(' ').append(brief(lab));
        }
        int length = lab.buffered();
        all.append("\nload ").append(length).append(' ').append(answer(() -> lab.load(length)));
        all.append(" error ").append(lab.parseError()).append(' ').append(lab.errorPosition());
        return all.append(' ').append(brief(lab)).toString();
    }

    private static String brief(ToeplitzLab lab) {
        int entries = lab.entries();
        String last = entries == 0 ? "" : " the last " + Check.row(3, what -> lab.accountOf(entries - 1, what));
        return Check.system(lab) + " entries " + entries + last;
    }

    private static Object answer(Check.Call call) {
        try {
            return call.answer();
        } catch (RuntimeException e) {
            return e.getClass();
        }
    }
}
