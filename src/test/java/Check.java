import java.util.Objects;

/** What the tests share: calls with the answers that are due, counted if they differ. */
final class Check {
    static final Class<?> STATE = IllegalStateException.class;
    static final Class<?> INDEX = IndexOutOfBoundsException.class;
    static final Class<?> ARGUMENT = IllegalArgumentException.class;

    private static int wrong = 0;
    private static int made = 0;

    interface Call {
        Object answer();
    }

    private Check() {
    }

    static void same(String what, Object due, Object got) {
        made++;
        if (!Objects.equals(due, got)) {
            wrong++;
            System.out.println(what + " answered " + got + ", due is " + due);
        }
    }

    static void throwing(String what, Class<?> due, Call call) {
        Object got;
        try {
            got = call.answer();
        } catch (RuntimeException e) {
            got = e.getClass();
        }
        same(what, due, got);
    }

    /** Puts a text into the buffer, with blanks behind it; returns its length. */
    static int put(ToeplitzLab lab, String text) {
        StringBuilder padded = new StringBuilder(text);
        while (padded.length() % 20 != 0) {
            padded.append(' ');
        }
        for (int at = 0; at < padded.length(); at += 20) {
            lab.append(word(padded, at), word(padded, at + 4), word(padded, at + 8), word(padded, at + 12),
                    word(padded, at + 16));
        }
        return text.length();
    }

    private static int word(CharSequence text, int at) {
        return text.charAt(at) << 24 | text.charAt(at + 1) << 16 | text.charAt(at + 2) << 8 | text.charAt(at + 3);
    }

    static ToeplitzLab lab(String text) {
        ToeplitzLab lab = new ToeplitzLab();
        lab.load(put(lab, text));
        return lab;
    }

    /** Compares the answers for the indices from 0 on, as one text. */
    interface Indexed {
        Object answer(int i);
    }

    static String row(int count, Indexed call) {
        StringBuilder row = new StringBuilder();
        for (int i = 0; i < count; i++) {
            row.append(i == 0 ? "" : " ").append(call.answer(i));
        }
        return row.toString();
    }

    /** The whole state, as far as the questions about it tell it. */
    static String state(ToeplitzLab lab) {
        StringBuilder all = new StringBuilder(system(lab)).append(" account");
        for (int k = 0; k < lab.entries(); k++) {
            int entry = k;
            all.append(" (").append(row(3, what -> lab.accountOf(entry, what))).append(')');
        }
        return all.toString();
    }

    /** The system and the refinement, with a few calls. */
    static String system(ToeplitzLab lab) {
        int n = lab.size();
        StringBuilder all = new StringBuilder();
        all.append(n).append(" prime ").append(lab.prime());
        if (n > 0) {
            all.append(" diagonals ").append(row(2 * n - 1, i -> lab.diagonal(i - n + 1)));
            all.append(" sides ").append(row(n, lab::side)).append(" probes ").append(row(n, lab::probe));
            all.append(" digits ").append(lab.digits());
            all.append(" values ").append(row(n, lab::value)).append(" residuals ").append(row(n, lab::residual));
        }
        return all.toString();
    }

    static void finish() {
        System.out.println(made + " checks, " + wrong + " wrong");
        if (wrong != 0) {
            System.exit(1);
        }
    }
}
