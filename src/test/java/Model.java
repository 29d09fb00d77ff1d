import java.math.BigInteger;
import java.util.ArrayList;
import java.util.Arrays;
import java.util.HashSet;
import java.util.List;
import java.util.Set;

/**
 * The document once more, as slowly and plainly as can be: determinants by expansion, vectors by trial,
 * big integers, whole copies for undo. ModelTest compares the class with it.
 */
public final class Model {
    private static final List<Integer> PRIMES = List.of(2, 3, 5, 7, 11, 13, 17, 19, 23, 29, 31);

    private static final class Sys implements Cloneable {
        int n;
        int p;
        int[] diag = new int[40];
        int[] b = new int[10];
        int[] v = new int[10];
        List<int[]> digits = new ArrayList<>();
        List<int[]> account = new ArrayList<>();

        Sys copy() {
            Sys s = new Sys();
            s.n = n;
            s.p = p;
            s.diag = diag.clone();
            s.b = b.clone();
            s.v = v.clone();
            s.digits = new ArrayList<>(digits);
            s.account = new ArrayList<>(account);
            return s;
        }

        int t(int i, int j) {
            return diag[20 + i - j];
        }

        int[][] matrix(int size) {
            int[][] m = new int[size][size];
            for (int i = 0; i < size; i++) {
                for (int j = 0; j < size; j++) {
                    m[i][j] = t(i, j);
                }
            }
            return m;
        }

        BigInteger m() {
            return BigInteger.valueOf(p).pow(digits.size());
        }

        BigInteger x(int i) {
            BigInteger sum = BigInteger.ZERO;
            for (int k = 0; k < digits.size(); k++) {
                sum = sum.add(BigInteger.valueOf(p).pow(k).multiply(BigInteger.valueOf(digits.get(k)[i])));
            }
            return sum;
        }

        /** (b - T * X) / M, which is what the residuals come to. */
        int residual(int i) {
            BigInteger rest = BigInteger.valueOf(b[i]);
            for (int j = 0; j < n; j++) {
                rest = rest.subtract(x(j).multiply(BigInteger.valueOf(t(i, j))));
            }
            BigInteger[] parts = rest.divideAndRemainder(m());
            if (parts[1].signum() != 0) {
                throw new AssertionError("remainder");
            }
            return parts[0].intValueExact();
        }

        BigInteger[] fraction(int i) {
            if (digits.isEmpty()) {
                return null;
            }
            BigInteger big = m();
            BigInteger r = big;
            BigInteger s = x(i);
            BigInteger u = BigInteger.ZERO;
            BigInteger w = BigInteger.ONE;
            while (s.multiply(s).shiftLeft(1).compareTo(big) > 0) {
                BigInteger q = r.divide(s);
                BigInteger s2 = r.subtract(q.multiply(s));
                r = s;
                s = s2;
                BigInteger w2 = u.subtract(q.multiply(w));
                u = w;
                w = w2;
            }
            if (w.signum() == 0 || w.multiply(w).shiftLeft(1).compareTo(big) > 0
                    || w.mod(BigInteger.valueOf(p)).signum() == 0) {
                return null;
            }
            if (w.signum() < 0) {
                s = s.negate();
                w = w.negate();
            }
            BigInteger g = s.gcd(w);
            return new BigInteger[] {s.divide(g), w.divide(g)};
        }

        boolean exact() {
            BigInteger lcm = BigInteger.ONE;
            BigInteger[][] f = new BigInteger[n][];
            for (int i = 0; i < n; i++) {
                f[i] = fraction(i);
                if (f[i] == null) {
                    return false;
                }
                lcm = lcm.divide(lcm.gcd(f[i][1])).multiply(f[i][1]);
            }
            if (lcm.compareTo(BigInteger.valueOf(1000000000L)) > 0) {
                return false;
            }
            for (int i = 0; i < n; i++) {
                BigInteger sum = BigInteger.ZERO;
                for (int j = 0; j < n; j++) {
                    sum = sum.add(lcm.divide(f[j][1]).multiply(f[j][0]).multiply(BigInteger.valueOf(t(i, j))));
                }
                if (!sum.equals(lcm.multiply(BigInteger.valueOf(b[i])))) {
                    return false;
                }
            }
            return true;
        }

        int most() {
            int k = 0;
            while (BigInteger.valueOf(p).pow(k + 1).compareTo(BigInteger.valueOf(1000000000000L)) <= 0) {
                k++;
            }
            return k;
        }

        boolean regular() {
            return mod(det(matrix(n)), p) != 0;
        }

        void doLift() {
            int[] rest = new int[n];
            for (int i = 0; i < n; i++) {
                rest[i] = residual(i);
            }
            digits.add(cramer(this, rest));
            int greatest = 0;
            for (int i = 0; i < n; i++) {
                greatest = Math.max(greatest, Math.abs(residual(i)));
            }
            if (account.size() < 30) {
                account.add(new int[] {digits.size(), greatest, exact() ? 1 : 0});
            }
        }
    }

    private static int mod(BigInteger a, int p) {
        return a.mod(BigInteger.valueOf(p)).intValue();
    }

    private static int mod(long a, int p) {
        return (int) (((a % p) + p) % p);
    }

    private static int inv(int a, int p) {
        return BigInteger.valueOf(a).modInverse(BigInteger.valueOf(p)).intValue();
    }

    /** Expansion along the rows over the sets of the columns that are used already. */
    static BigInteger det(int[][] m) {
        int n = m.length;
        BigInteger[] byset = new BigInteger[1 << n];
        Arrays.fill(byset, BigInteger.ZERO);
        byset[0] = BigInteger.ONE;
        for (int set = 0; set < 1 << n; set++) {
            int row = Integer.bitCount(set);
            for (int c = 0; c < n; c++) {
                if ((set >> c & 1) == 0) {
                    int behind = Integer.bitCount(set >> c);
                    BigInteger part = byset[set].multiply(BigInteger.valueOf(m[row][c]));
                    byset[set | 1 << c] = byset[set | 1 << c].add(behind % 2 == 0 ? part : part.negate());
                }
            }
        }
        return byset[(1 << n) - 1];
    }

    /** The solution modulo p by Cramer's rule. */
    private static int[] cramer(Sys s, int[] right) {
        int[] x = new int[s.n];
        int d = inv(mod(det(s.matrix(s.n)), s.p), s.p);
        for (int j = 0; j < s.n; j++) {
            int[][] m = s.matrix(s.n);
            for (int i = 0; i < s.n; i++) {
                m[i][j] = right[i];
            }
            x[j] = mod((long) mod(det(m), s.p) * d, s.p);
        }
        return x;
    }

    @SuppressWarnings("serial")
    private static final class TextError extends RuntimeException {
        final int code;
        final int at;

        TextError(int code, int at) {
            this.code = code;
            this.at = at;
        }
    }

    private static final class Token {
        final char kind;
        final String text;
        final int at;

        Token(char kind, String text, int at) {
            this.kind = kind;
            this.text = text;
            this.at = at;
        }
    }

    private static List<Token> tokens(String text) {
        List<Token> list = new ArrayList<>();
        java.util.regex.Matcher m = java.util.regex.Pattern.compile(" +|[a-z]+|[0-9]+|-|;|.",
                java.util.regex.Pattern.DOTALL).matcher(text);
        while (m.find()) {
            String s = m.group();
            char c = s.charAt(0);
            if (c == ' ') {
                continue;
            }
            char kind = '?';
            if (c >= 'a' && c <= 'z' && s.length() <= 8) {
                kind = 'w';
            } else if (c >= '0' && c <= '9' && s.length() <= 4) {
                kind = 'n';
            } else if (c == '-' || c == ';') {
                kind = c;
            }
            list.add(new Token(kind, s, m.start()));
        }
        list.add(new Token('e', "", text.length()));
        return list;
    }

    private static final class Reader {
        final List<Token> list;
        int at = 0;

        Reader(String text) {
            list = tokens(text);
        }

        Token now() {
            return list.get(at);
        }

        TextError error(int code) {
            return new TextError(code, now().at);
        }

        boolean has(char kind) {
            return now().kind == kind;
        }

        void word(String w) {
            if (!has('w') || !now().text.equals(w)) {
                throw error(1);
            }
            at++;
        }

        int number(int low, int high, boolean signed) {
            int sign = 1;
            if (signed && has('-')) {
                sign = -1;
                at++;
            }
            if (!has('n')) {
                throw error(1);
            }
            int value = sign * Integer.parseInt(now().text);
            if (value < low || value > high) {
                throw error(2);
            }
            return value;
        }

        Sys read() {
            Sys s = new Sys();
            word("toeplitz");
            s.n = number(1, 7, false);
            at++;
            word("prime");
            s.p = number(0, 9999, false);
            if (!PRIMES.contains(s.p)) {
                throw error(2);
            }
            at++;
            Set<String> told = new HashSet<>();
            int bands = 0;
            while (!has('e')) {
                if (!has(';')) {
                    throw error(1);
                }
                at++;
                if (!has('w')) {
                    throw error(1);
                }
                String w = now().text;
                if (w.equals("diagonal") || w.equals("band")) {
                    if (w.equals("band") && ++bands > 8) {
                        throw error(4);
                    }
                    at++;
                    int from = number(1 - s.n, s.n - 1, true);
                    int to = from;
                    if (w.equals("band")) {
                        at++;
                        to = number(from, s.n - 1, true);
                    }
                    for (int k = from; k <= to; k++) {
                        if (!told.add("d" + k)) {
                            throw error(3);
                        }
                    }
                    at++;
                    int value = number(-50, 50, true);
                    at++;
                    for (int k = from; k <= to; k++) {
                        s.diag[20 + k] = value;
                    }
                } else if (w.equals("side") || w.equals("probe")) {
                    at++;
                    int row = number(0, s.n - 1, false);
                    if (!told.add(w + row)) {
                        throw error(3);
                    }
                    at++;
                    int part = number(-999, 999, true);
                    at++;
                    (w.equals("side") ? s.b : s.v)[row] = part;
                } else {
                    throw error(1);
                }
            }
            return s;
        }
    }

    private final StringBuilder text = new StringBuilder();
    private Sys now = null;
    private int code = 0;
    private int at = -1;
    private final List<Sys> past = new ArrayList<>();
    private final Sys[] saved = new Sys[2];

    public int append(int a, int b, int c, int d, int e) {
        if (text.length() + 20 > 700) {
            return -1;
        }
        for (int w : new int[] {a, b, c, d, e}) {
            for (int k = 3; k >= 0; k--) {
                text.append((char) (w >>> 8 * k & 255));
            }
        }
        return text.length();
    }

    public int load(int n) {
        index(n >= 0 && n <= text.length());
        String read = text.substring(0, n);
        text.setLength(0);
        try {
            now = new Reader(read).read();
        } catch (TextError e) {
            code = e.code;
            at = e.at;
            throw new IllegalArgumentException();
        }
        code = 0;
        at = -1;
        past.clear();
        saved[0] = null;
        saved[1] = null;
        return now.n;
    }

    public int parseError() {
        return code;
    }

    public int errorPosition() {
        return at;
    }

    public int buffered() {
        return text.length();
    }

    private void system() {
        if (now == null) {
            throw new IllegalStateException();
        }
    }

    private static void index(boolean good) {
        if (!good) {
            throw new IndexOutOfBoundsException();
        }
    }

    private static void argument(boolean good) {
        if (!good) {
            throw new IllegalArgumentException();
        }
    }

    private void row(int i) {
        index(i >= 0 && i < now.n);
    }

    public int size() {
        return now == null ? 0 : now.n;
    }

    public int prime() {
        return now == null ? 0 : now.p;
    }

    public int diagonal(int k) {
        system();
        index(Math.abs((long) k) < now.n);
        return now.diag[20 + k];
    }

    public int entry(int i, int j) {
        system();
        row(i);
        row(j);
        return now.t(i, j);
    }

    public int side(int i) {
        system();
        row(i);
        return now.b[i];
    }

    public int probe(int i) {
        system();
        row(i);
        return now.v[i];
    }

    public int minor(int k) {
        system();
        index(k >= 0 && k <= now.n);
        return mod(det(now.matrix(k)), now.p);
    }

    /** The greatest size of a square part with a determinant that is not 0. */
    public int rank() {
        system();
        return rankOf(now.matrix(now.n), now.p);
    }

    private static int rankOf(int[][] m, int p) {
        int best = 0;
        int rows = m.length;
        int columns = rows == 0 ? 0 : m[0].length;
        for (int a = 0; a < 1 << rows; a++) {
            int k = Integer.bitCount(a);
            if (k <= best || k > columns) {
                continue;
            }
            for (int c = 0; c < 1 << columns && k > best; c++) {
                if (Integer.bitCount(c) == k && mod(det(part(m, a, c)), p) != 0) {
                    best = k;
                }
            }
        }
        return best;
    }

    private static int[][] part(int[][] m, int rows, int columns) {
        int k = Integer.bitCount(rows);
        int[][] part = new int[k][k];
        int i = 0;
        for (int a = 0; a < m.length; a++) {
            if ((rows >> a & 1) != 0) {
                int j = 0;
                for (int c = 0; c < m[0].length; c++) {
                    if ((columns >> c & 1) != 0) {
                        part[i][j++] = m[a][c];
                    }
                }
                i++;
            }
        }
        return part;
    }

    public boolean isRegular() {
        system();
        return now.regular();
    }

    private List<Integer> regularSizes() {
        List<Integer> list = new ArrayList<>();
        for (int k = 0; k <= now.n; k++) {
            if (mod(det(now.matrix(k)), now.p) != 0) {
                list.add(k);
            }
        }
        return list;
    }

    public int steps() {
        system();
        return regularSizes().size() - 1;
    }

    public int stepEnd(int step) {
        system();
        index(step >= 0 && step < regularSizes().size());
        return regularSizes().get(step);
    }

    public int longestJump() {
        system();
        List<Integer> r = regularSizes();
        int best = 0;
        for (int k = 1; k < r.size(); k++) {
            best = Math.max(best, r.get(k) - r.get(k - 1));
        }
        return best;
    }

    public int tail() {
        system();
        List<Integer> r = regularSizes();
        return now.n - r.get(r.size() - 1);
    }

    public int regularPrimes() {
        system();
        int set = 0;
        for (int k = 0; k < PRIMES.size(); k++) {
            set |= mod(det(now.matrix(now.n)), PRIMES.get(k)) != 0 ? 1 << k : 0;
        }
        return set;
    }

    public int minorIf(int k, int value, int size) {
        system();
        index(Math.abs((long) k) < now.n && size >= 0 && size <= now.n);
        argument(value >= -50 && value <= 50);
        Sys other = now.copy();
        other.diag[20 + k] = value;
        return mod(det(other.matrix(size)), now.p);
    }

    /** A bordered determinant divided by that of the block. */
    private int complement(int r, int i, int j) {
        int[][] m = new int[r + 1][r + 1];
        for (int a = 0; a <= r; a++) {
            for (int c = 0; c <= r; c++) {
                m[a][c] = now.t(a < r ? a : i, c < r ? c : j);
            }
        }
        return mod((long) mod(det(m), now.p) * inv(mod(det(now.matrix(r)), now.p), now.p), now.p);
    }

    private int begin(int step, int... rows) {
        int r = stepEnd(step);
        for (int i : rows) {
            index(i >= r && i < now.n);
        }
        return r;
    }

    public int schur(int step, int i, int j) {
        system();
        return complement(begin(step, i, j), i, j);
    }

    private int shifted(int r, int i, int j) {
        return i == r || j == r ? complement(r, i, j)
                : mod(complement(r, i, j) - complement(r, i - 1, j - 1), now.p);
    }

    public int displacement(int step, int i, int j) {
        system();
        return shifted(begin(step, i, j), i, j);
    }

    private List<int[][]> pairs(int r) {
        int[][] d = new int[now.n][now.n];
        for (int i = r; i < now.n; i++) {
            for (int j = r; j < now.n; j++) {
                d[i][j] = shifted(r, i, j);
            }
        }
        List<int[][]> list = new ArrayList<>();
        while (true) {
            int first = -1;
            for (int k = now.n * now.n - 1; k >= 0; k--) {
                first = d[k / now.n][k % now.n] != 0 ? k : first;
            }
            if (first < 0) {
                return list;
            }
            int i = first / now.n;
            int j = first % now.n;
            int q = inv(d[i][j], now.p);
            int[][] pair = new int[2][now.n];
            for (int a = 0; a < now.n; a++) {
                pair[0][a] = d[a][j] * q % now.p;
                pair[1][a] = d[i][a];
            }
            for (int a = 0; a < now.n; a++) {
                for (int c = 0; c < now.n; c++) {
                    d[a][c] = mod(d[a][c] - pair[0][a] * pair[1][c], now.p);
                }
            }
            list.add(pair);
        }
    }

    public int generators(int step) {
        system();
        return pairs(begin(step)).size();
    }

    public int generator(int step, int pair, int i, boolean right) {
        system();
        List<int[][]> list = pairs(begin(step, i));
        index(pair >= 0 && pair < list.size());
        return list.get(pair)[right ? 1 : 0][i];
    }

    public int mostGenerators() {
        system();
        int best = 0;
        for (int r : regularSizes()) {
            best = Math.max(best, pairs(r).size());
        }
        return best;
    }

    public int solution(int i) {
        system();
        row(i);
        argument(now.regular());
        return cramer(now, now.b)[i];
    }

    public int inverse(int i, int j) {
        system();
        row(i);
        row(j);
        argument(now.regular());
        int[] unit = new int[now.n];
        unit[j] = 1;
        return cramer(now, unit)[i];
    }

    /** Tries the vectors in the order of their last components; a few primes and sizes are too many to try. */
    public int kernel(int i) {
        system();
        row(i);
        argument(!now.regular());
        for (int last = 0; last < now.n; last++) {
            int[][] columns = new int[now.n][last + 1];
            for (int a = 0; a < now.n; a++) {
                for (int c = 0; c <= last; c++) {
                    columns[a][c] = now.t(a, c);
                }
            }
            if (rankOf(columns, now.p) == last) {
                return i > last ? 0 : i == last ? 1 : kernelPart(columns, last, i);
            }
        }
        throw new AssertionError("no kernel");
    }

    /** By Cramer's rule in rows that are independent. */
    private int kernelPart(int[][] columns, int last, int i) {
        for (int rows = 0; rows < 1 << now.n; rows++) {
            if (Integer.bitCount(rows) == last) {
                int[][] m = part(columns, rows, (1 << last) - 1);
                int d = mod(det(m), now.p);
                if (d != 0) {
                    int k = 0;
                    for (int a = 0; a < now.n; a++) {
                        if ((rows >> a & 1) != 0) {
                            m[k++][i] = -columns[a][last];
                        }
                    }
                    return mod((long) mod(det(m), now.p) * inv(d, now.p), now.p);
                }
            }
        }
        throw new AssertionError("no rows");
    }

    public boolean isSolvable() {
        system();
        int[][] wide = new int[now.n][now.n + 1];
        for (int i = 0; i < now.n; i++) {
            for (int j = 0; j < now.n; j++) {
                wide[i][j] = now.t(i, j);
            }
            wide[i][now.n] = now.b[i];
        }
        return rankOf(wide, now.p) == rank();
    }

    public int digits() {
        system();
        return now.digits.size();
    }

    public int mostDigits() {
        system();
        return now.most();
    }

    public int digit(int k, int i) {
        system();
        row(i);
        index(k >= 0 && k < now.digits.size());
        return now.digits.get(k)[i];
    }

    public int residual(int i) {
        system();
        row(i);
        return now.residual(i);
    }

    public long value(int i) {
        system();
        row(i);
        return now.x(i).longValueExact();
    }

    public long centred(int i) {
        system();
        row(i);
        BigInteger x = now.x(i);
        while (x.shiftLeft(1).compareTo(now.m()) > 0) {
            x = x.subtract(now.m());
        }
        return x.longValueExact();
    }

    public int numerator(int i) {
        system();
        row(i);
        argument(now.fraction(i) != null);
        return now.fraction(i)[0].intValueExact();
    }

    public int denominator(int i) {
        system();
        row(i);
        return now.fraction(i) == null ? 0 : now.fraction(i)[1].intValueExact();
    }

    public double quotient(int i) {
        return (double) numerator(i) / (double) denominator(i);
    }

    public boolean isExact() {
        system();
        return now.exact();
    }

    public int liftsTo() {
        system();
        Sys s = now.copy();
        for (int lifts = 0;; lifts++) {
            if (s.exact()) {
                return lifts;
            }
            if (!s.regular() || s.digits.size() == s.most()) {
                return -1;
            }
            s.doLift();
        }
    }

    public int product(int i) {
        system();
        row(i);
        int sum = 0;
        for (int j = 0; j < now.n; j++) {
            sum += now.t(i, j) * now.v[j];
        }
        return sum;
    }

    private int[][] circle() {
        int n = now.n;
        int[][] c = new int[2 * n][2 * n];
        for (int i = 0; i < n; i++) {
            c[i][0] = now.diag[20 + i];
        }
        for (int i = n + 1; i < 2 * n; i++) {
            c[i][0] = now.diag[20 + i - 2 * n];
        }
        for (int j = 1; j < 2 * n; j++) {
            for (int i = 0; i < 2 * n; i++) {
                c[i][j] = c[i == 0 ? 2 * n - 1 : i - 1][j - 1];
            }
        }
        return c;
    }

    public int circulant(int i, int j) {
        system();
        index(i >= 0 && i < 2 * now.n && j >= 0 && j < 2 * now.n);
        return circle()[i][j];
    }

    public int wrapped(int i) {
        system();
        index(i >= 0 && i < 2 * now.n);
        int sum = 0;
        for (int j = 0; j < now.n; j++) {
            sum += circle()[i][j] * now.v[j];
        }
        return sum;
    }

    public boolean probeSolves() {
        system();
        for (int i = 0; i < now.n; i++) {
            if (product(i) != now.b[i]) {
                return false;
            }
        }
        return true;
    }

    public int entries() {
        return now == null ? 0 : now.account.size();
    }

    public int accountOf(int k, int what) {
        system();
        index(k >= 0 && k < now.account.size());
        argument(what >= 0 && what <= 2);
        return now.account.get(k)[what];
    }

    private void change() {
        past.add(now.copy());
        if (past.size() > 8) {
            past.remove(0);
        }
    }

    public int setDiagonal(int k, int value) {
        int before = diagonal(k);
        argument(value >= -50 && value <= 50);
        change();
        now.diag[20 + k] = value;
        now.digits.clear();
        return before;
    }

    public int setSide(int i, int value) {
        int before = side(i);
        argument(value >= -999 && value <= 999);
        change();
        now.b[i] = value;
        now.digits.clear();
        return before;
    }

    public int setProbe(int i, int value) {
        int before = probe(i);
        argument(value >= -999 && value <= 999);
        change();
        now.v[i] = value;
        return before;
    }

    public int setPrime(int prime) {
        system();
        argument(PRIMES.contains(prime));
        int before = now.p;
        change();
        now.p = prime;
        now.digits.clear();
        return before;
    }

    public int grow(int below, int above, int part) {
        system();
        argument(now.n < 7 && below >= -50 && below <= 50 && above >= -50 && above <= 50);
        argument(part >= -999 && part <= 999);
        change();
        now.diag[20 + now.n] = below;
        now.diag[20 - now.n] = above;
        now.b[now.n] = part;
        now.v[now.n] = 0;
        now.n++;
        now.digits.clear();
        return now.n;
    }

    public int shrink() {
        system();
        argument(now.n > 1);
        change();
        now.n--;
        now.digits.clear();
        return now.n;
    }

    public int lift() {
        system();
        argument(now.regular() && now.digits.size() < now.most());
        change();
        now.doLift();
        return now.digits.size();
    }

    public int refine(int most) {
        system();
        argument(most >= 1 && most <= 40 && now.regular());
        change();
        int lifts = 0;
        while (lifts < most && !now.exact() && now.digits.size() < now.most()) {
            now.doLift();
            lifts++;
        }
        return lifts;
    }

    public int undo() {
        if (past.isEmpty()) {
            throw new IllegalStateException();
        }
        now = past.remove(past.size() - 1);
        return past.size();
    }

    public int undoable() {
        return past.size();
    }

    public int save(int slot) {
        system();
        index(slot == 0 || slot == 1);
        saved[slot] = now.copy();
        return now.n;
    }

    public int restore(int slot) {
        index(slot == 0 || slot == 1);
        if (saved[slot] == null) {
            throw new IllegalStateException();
        }
        now = saved[slot].copy();
        past.clear();
        return now.n;
    }
}
