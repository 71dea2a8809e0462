import java.util.ArrayList;
import java.util.HashMap;
import java.util.List;
import java.util.Map;

/** The document's promises by going through everything, for mills of few plates and rules of few numbers. */
final class PlainMills {
    private static final long LONGEST = 1_000_000_000_000L;

    private static final class Mill {
        final int kind;
        final int m;
        final int n;
        final int[][] table;
        final int[] more;
        final int[] plate;
        final int[][] cells;
        int[] next;
        int[] tails;
        int[] lengths;

        Mill(int kind, int m, int n) {
            this.kind = kind;
            this.m = m;
            this.n = n;
            table = new int[n][n];
            more = new int[n];
            plate = new int[n];
            cells = kind == 3 ? new int[m][m] : null;
            if (kind == 2) {
                for (int r = 0; r < n - 1; r++) {
                    table[r][r + 1] = 1;
                }
            }
        }

        int plates() {
            int count = 1;
            for (int i = 0; i < n; i++) {
                count *= m;
            }
            return count;
        }

        int number(int[] row) {
            int number = 0;
            for (int r : row) {
                number = number * m + r;
            }
            return number;
        }

        int[] row(int number) {
            int[] row = new int[n];
            int left = number;
            for (int i = n - 1; i >= 0; i--) {
                row[i] = left % m;
                left /= m;
            }
            return row;
        }

        int[] turned(int[] row) {
            int[] to = new int[n];
            for (int r = 0; r < n; r++) {
                long sum = more[r];
                for (int c = 0; c < n; c++) {
                    sum += (long) table[r][c] * row[c];
                }
                to[r] = (int) (sum % m);
            }
            return to;
        }

        void walkAll() {
            if (next != null) {
                return;
            }
            int count = plates();
            next = new int[count];
            for (int i = 0; i < count; i++) {
                next[i] = number(turned(row(i)));
            }
            tails = new int[count];
            lengths = new int[count];
            int[] seenAt = new int[count];
            for (int i = 0; i < count; i++) {
                if (lengths[i] == 0) {
                    walkFrom(i, seenAt);
                }
            }
        }

        private void walkFrom(int start, int[] seenAt) {
            List<Integer> way = new ArrayList<>();
            int at = start;
            while (lengths[at] == 0 && seenAt[at] == 0) {
                way.add(at);
                seenAt[at] = way.size();
                at = next[at];
            }
            int end = way.size();
            if (lengths[at] == 0) {
                int first = seenAt[at] - 1;
                for (int i = first; i < end; i++) {
                    lengths[way.get(i)] = end - first;
                }
                end = first;
            }
            for (int i = end - 1; i >= 0; i--) {
                int on = next[way.get(i)];
                lengths[way.get(i)] = lengths[on];
                tails[way.get(i)] = tails[on] + 1;
            }
        }

        int far(int from, long turns) {
            walkAll();
            int at = from;
            long left = turns;
            while (left > 0 && tails[at] > 0) {
                at = next[at];
                left--;
            }
            left %= lengths[at];
            for (long i = 0; i < left; i++) {
                at = next[at];
            }
            return at;
        }

        void setPlate(int number) {
            System.arraycopy(row(number), 0, plate, 0, n);
        }

        long worth() {
            return Math.floorMod(determinant(0, new boolean[n]), (long) m);
        }

        private long determinant(int row, boolean[] used) {
            if (row == n) {
                return 1;
            }
            long sum = 0;
            int sign = 1;
            for (int c = 0; c < n; c++) {
                if (!used[c]) {
                    used[c] = true;
                    sum += sign * table[row][c] * determinant(row + 1, used);
                    used[c] = false;
                    sign = -sign;
                }
            }
            return sum;
        }

        boolean onward() {
            long w = worth();
            for (int d = 2; d <= m; d++) {
                if (m % d == 0 && w % d == 0) {
                    return false;
                }
            }
            return true;
        }

        List<int[]> parts() {
            List<int[]> parts = new ArrayList<>();
            for (int p = 2; p <= m; p++) {
                boolean prime = true;
                for (int d = 2; d < p; d++) {
                    prime &= p % d != 0;
                }
                if (prime && m % p == 0) {
                    int power = 1;
                    int often = 0;
                    while (m % (power * p) == 0) {
                        power *= p;
                        often++;
                    }
                    parts.add(new int[] {p, power, often});
                }
            }
            return parts;
        }

        long order() {
            walkAll();
            long all = 1;
            for (int length : lengths) {
                long a = all;
                long b = length;
                while (b != 0) {
                    long r = a % b;
                    a = b;
                    b = r;
                }
                all = all / a * length;
            }
            return all;
        }

        int[][] moved(long turns) {
            int[][] to = new int[m][m];
            for (int x = 0; x < m; x++) {
                for (int y = 0; y < m; y++) {
                    int[] place = row(far(number(new int[] {x, y}), turns));
                    to[place[0]][place[1]] = cells[x][y];
                }
            }
            return to;
        }

        long look() {
            int[][] at = cells;
            for (long turns = 1; ; turns++) {
                int[][] to = new int[m][m];
                for (int x = 0; x < m; x++) {
                    for (int y = 0; y < m; y++) {
                        int[] place = turned(new int[] {x, y});
                        to[place[0]][place[1]] = at[x][y];
                    }
                }
                if (java.util.Arrays.deepEquals(to, cells)) {
                    return turns;
                }
                at = to;
            }
        }
    }

    private final Map<Integer, Mill> mills = new HashMap<>();
    private final List<Integer> told = new ArrayList<>();
    private int prime = 2;

    int mill(int kind, int measure, int size) {
        boolean can = kind >= 0 && kind <= 3 && measure >= 2 && measure <= 500 && size >= 1 && size <= 4;
        if (kind == 1) {
            can &= size == 1;
        }
        if (kind == 3) {
            can &= size == 2 && measure <= 64;
        }
        for (int i = 0; can && i < 6; i++) {
            if (!mills.containsKey(i)) {
                mills.put(i, new Mill(kind, measure, size));
                return i;
            }
        }
        return -1;
    }

    boolean drop(int mill) {
        return mills.remove(mill) != null;
    }

    private static boolean in(int v, int from, int below) {
        return v >= from && v < below;
    }

    boolean table(int mill, int row, int column, int v) {
        Mill m = mills.get(mill);
        if (m == null || !in(row, 0, m.n) || !in(column, 0, m.n) || m.kind == 2 && row != m.n - 1) {
            return false;
        }
        m.table[row][column] = Math.floorMod(v, m.m);
        m.next = null;
        return true;
    }

    boolean more(int mill, int row, int v) {
        Mill m = mills.get(mill);
        if (m == null || !in(row, 0, m.n) || m.kind == 2 && row != m.n - 1) {
            return false;
        }
        m.more[row] = Math.floorMod(v, m.m);
        m.next = null;
        return true;
    }

    boolean plate(int mill, int row, int v) {
        Mill m = mills.get(mill);
        if (m == null || !in(row, 0, m.n)) {
            return false;
        }
        m.plate[row] = Math.floorMod(v, m.m);
        return true;
    }

    int look(int mill, int what) {
        Mill m = mills.get(mill);
        if (m == null || !in(what, 0, 6)) {
            return -1;
        }
        return new int[] {m.kind, m.m, m.n, (int) m.worth(), m.onward() ? 1 : 0, m.parts().size()}[what];
    }

    int rest(int mill, int row) {
        Mill m = mills.get(mill);
        return m == null || !in(row, 0, m.n) ? -1 : m.plate[row];
    }

    int cell(int mill, int row, int column) {
        Mill m = mills.get(mill);
        if (m == null || !in(row, 0, m.n) || !in(column, 0, m.n + 1)) {
            return -1;
        }
        return column == m.n ? m.more[row] : m.table[row][column];
    }

    boolean turn(int mill, int turns) {
        Mill m = mills.get(mill);
        if (m == null || !in(turns, 0, 5001)) {
            return false;
        }
        for (int i = 0; i < turns; i++) {
            System.arraycopy(m.turned(m.plate), 0, m.plate, 0, m.n);
        }
        return true;
    }

    boolean leap(int mill, long turns) {
        Mill m = mills.get(mill);
        if (m == null || turns < 0) {
            return false;
        }
        m.setPlate(m.far(m.number(m.plate), turns));
        return true;
    }

    boolean back(int mill, long turns) {
        Mill m = mills.get(mill);
        if (m == null || turns < 0 || !m.onward()) {
            return false;
        }
        m.walkAll();
        int at = m.number(m.plate);
        for (int i = 0; i < m.next.length; i++) {
            if (m.far(i, turns) == at) {
                m.setPlate(i);
                return true;
            }
        }
        throw new IllegalStateException("no plate comes here");
    }

    int tail(int mill) {
        Mill m = mills.get(mill);
        if (m == null) {
            return -1;
        }
        m.walkAll();
        return m.tails[m.number(m.plate)];
    }

    long round(int mill) {
        Mill m = mills.get(mill);
        if (m == null) {
            return -1;
        }
        m.walkAll();
        return m.lengths[m.number(m.plate)];
    }

    long order(int mill) {
        Mill m = mills.get(mill);
        return m == null || !m.onward() ? -1 : m.order();
    }

    long fixed(int mill, long turns) {
        Mill m = mills.get(mill);
        if (m == null || turns < 0) {
            return -1;
        }
        m.walkAll();
        long count = 0;
        for (int i = 0; i < m.next.length; i++) {
            count += turns == 0 || m.tails[i] == 0 && turns % m.lengths[i] == 0 ? 1 : 0;
        }
        return count;
    }

    long rounds(int mill, long length) {
        Mill m = mills.get(mill);
        if (m == null || length < 1 || length > LONGEST) {
            return -1;
        }
        m.walkAll();
        long count = 0;
        for (int i = 0; i < m.next.length; i++) {
            count += m.tails[i] == 0 && m.lengths[i] == length ? 1 : 0;
        }
        return count;
    }

    int part(int mill, int k, int what) {
        Mill m = mills.get(mill);
        if (m == null || !in(k, 0, m.parts().size()) || !in(what, 0, 4)) {
            return -1;
        }
        int[] part = m.parts().get(k);
        return what < 3 ? part[what] : (int) (m.worth() % part[1]);
    }

    int split(int mill, int k, int r) {
        Mill m = mills.get(mill);
        if (m == null || !in(k, 0, m.parts().size()) || !in(r, 0, m.n)) {
            return -1;
        }
        return m.plate[r] % m.parts().get(k)[1];
    }

    boolean join(int mill, int k, int r, int v) {
        Mill m = mills.get(mill);
        if (m == null || !in(k, 0, m.parts().size()) || !in(r, 0, m.n)) {
            return false;
        }
        List<int[]> parts = m.parts();
        for (int x = 0; x < m.m; x++) {
            boolean fits = true;
            for (int i = 0; i < parts.size(); i++) {
                int power = parts.get(i)[1];
                fits &= x % power == (i == k ? Math.floorMod(v, power) : m.plate[r] % power);
            }
            if (fits) {
                m.plate[r] = x;
                return true;
            }
        }
        throw new IllegalStateException("no such rest");
    }

    private Mill single(int mill) {
        Mill m = mills.get(mill);
        return m != null && m.kind == 1 ? m : null;
    }

    int all(int mill) {
        Mill m = single(mill);
        if (m == null) {
            return -1;
        }
        int at = 0;
        for (int i = 1; i <= m.m; i++) {
            at = (at * m.table[0][0] + m.more[0]) % m.m;
            if (at == 0) {
                return i == m.m ? 1 : 0;
            }
        }
        return 0;
    }

    /** The shortest line, first by its numbers, with the sum of its squares behind it. */
    static int[] lineOf(int t, int m, int neighbours) {
        int reach = new int[] {0, 0, 30, 12, 7}[neighbours];
        int[] best = null;
        int[] at = new int[neighbours];
        java.util.Arrays.fill(at, -reach);
        while (true) {
            long sum = 0;
            int squares = 0;
            int first = 0;
            for (int i = neighbours - 1; i >= 0; i--) {
                sum = sum * t + at[i];
                squares += at[i] * at[i];
                first = at[i] != 0 ? at[i] : first;
            }
            if (first > 0 && sum % m == 0 && (best == null || squares < best[neighbours])) {
                best = java.util.Arrays.copyOf(at, neighbours + 1);
                best[neighbours] = squares;
            }
            int i = neighbours - 1;
            while (i >= 0 && at[i] == reach) {
                at[i] = -reach;
                i--;
            }
            if (i < 0) {
                break;
            }
            at[i]++;
        }
        if (best == null || best[neighbours] > reach * reach) {
            throw new IllegalStateException("not looked far enough");
        }
        return best;
    }

    int shortest(int mill, int neighbours) {
        Mill m = single(mill);
        return m == null || !in(neighbours, 2, 5) ? -1 : lineOf(m.table[0][0], m.m, neighbours)[neighbours];
    }

    int line(int mill, int neighbours, int k) {
        Mill m = single(mill);
        if (m == null || !in(neighbours, 2, 5) || !in(k, 0, neighbours)) {
            return 501;
        }
        return lineOf(m.table[0][0], m.m, neighbours)[k];
    }

    private Mill painted(int mill) {
        Mill m = mills.get(mill);
        return m != null && m.kind == 3 ? m : null;
    }

    boolean paint(int mill, int x, int y, int v) {
        Mill m = painted(mill);
        if (m == null || !in(x, 0, m.m) || !in(y, 0, m.m) || !in(v, 0, 256)) {
            return false;
        }
        m.cells[x][y] = v;
        return true;
    }

    int picture(int mill, int x, int y) {
        Mill m = painted(mill);
        return m == null || !in(x, 0, m.m) || !in(y, 0, m.m) ? -1 : m.cells[x][y];
    }

    boolean move(int mill, long turns) {
        Mill m = painted(mill);
        if (m == null || turns < 0 || !m.onward()) {
            return false;
        }
        int[][] to = m.moved(turns);
        for (int x = 0; x < m.m; x++) {
            System.arraycopy(to[x], 0, m.cells[x], 0, m.m);
        }
        return true;
    }

    long seen(int mill) {
        Mill m = painted(mill);
        return m == null || !m.onward() ? -1 : m.look();
    }

    boolean begin(int p) {
        boolean good = p >= 2 && p <= 499;
        for (int d = 2; good && d < p; d++) {
            good = p % d != 0;
        }
        if (good) {
            prime = p;
            told.clear();
        }
        return good;
    }

    int tell(int v) {
        if (told.size() == 64) {
            return -1;
        }
        told.add(Math.floorMod(v, prime));
        return told.size();
    }

    /** Whether there is a rule of this length that starts with these numbers. */
    private boolean hasRule(int length, List<Integer> start) {
        List<long[]> rows = new ArrayList<>();
        int free = length - start.size();
        for (int i = length; i < told.size(); i++) {
            long[] row = new long[free + 1];
            long due = told.get(i);
            for (int j = 1; j <= length; j++) {
                if (j <= start.size()) {
                    due -= (long) start.get(j - 1) * told.get(i - j);
                } else {
                    row[j - start.size() - 1] = told.get(i - j);
                }
            }
            row[free] = Math.floorMod(due, (long) prime);
            rows.add(row);
        }
        for (int c = 0; c < free; c++) {
            long[] pivot = null;
            for (long[] row : rows) {
                if (row[c] != 0) {
                    pivot = row;
                    break;
                }
            }
            if (pivot == null) {
                continue;
            }
            rows.remove(pivot);
            for (long[] row : rows) {
                long times = row[c];
                long by = pivot[c];
                for (int i = 0; i <= free; i++) {
                    row[i] = Math.floorMod(row[i] * by - times * pivot[i], (long) prime);
                }
            }
        }
        for (long[] row : rows) {
            if (row[free] != 0) {
                return false;
            }
        }
        return true;
    }

    int least() {
        for (int length = 0; ; length++) {
            if (hasRule(length, new ArrayList<>())) {
                return length;
            }
        }
    }

    int shown() {
        return 2 * least() <= told.size() ? 1 : 0;
    }

    int rule(int k) {
        int length = least();
        if (!in(k, 1, length + 1)) {
            return -1;
        }
        List<Integer> start = new ArrayList<>();
        while (start.size() < k) {
            start.add(0);
            while (!hasRule(length, start)) {
                start.set(start.size() - 1, start.get(start.size() - 1) + 1);
            }
        }
        return start.get(k - 1);
    }

    int check(int mill, long n) {
        if (!mills.containsKey(mill) || n < 1 || n > LONGEST) {
            return -1;
        }
        return round(mill) == n ? 1 : 0;
    }
}
