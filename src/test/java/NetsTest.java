import java.util.ArrayList;
import java.util.Comparator;
import java.util.List;

/** Promises 21 to 23 for every MEASURE and TABLE that a SINGLE mill can have. */
public final class NetsTest {
    /** Above any SHORT: rows are listed up to these squares, and one that is due but not listed ends the test. */
    private static final int[] MOST_SQUARES = {0, 0, 600, 90, 36};
    /** A table takes at most 17 of a house's 512 calls. */
    private static final int TABLES_OF_A_HOUSE = 29;

    private NetsTest() {
    }

    public static void main(String[] args) {
        int[][] two = rowsInOrder(2);
        int[][] three = rowsInOrder(3);
        int[][] four = rowsInOrder(4);
        for (int m = 2; m <= 500; m++) {
            RoundMill x = null;
            for (int t = 0; t < m; t++) {
                if (t % TABLES_OF_A_HOUSE == 0) {
                    x = Made.empty(1, m, 1);
                }
                x.table(0, 0, 0, t);
                net(x, m, t, two);
                net(x, m, t, three);
                net(x, m, t, four);
                oneRound(x, m, t, 1);
                oneRound(x, m, t, t * 7 + 3);
            }
        }
        Due.end();
    }

    /** By their squares, then by u0, u1 ..: of those that fit, the first is the LINE, by the document's own words. */
    private static int[][] rowsInOrder(int neighbours) {
        List<int[]> rows = new ArrayList<>();
        listRows(new int[neighbours], 0, MOST_SQUARES[neighbours], rows);
        rows.sort(Comparator.<int[]>comparingInt(NetsTest::squares).thenComparing(java.util.Arrays::compare));
        return rows.toArray(new int[0][]);
    }

    private static void listRows(int[] row, int at, int left, List<int[]> into) {
        if (at == row.length) {
            if (squares(row) > 0) {
                into.add(row.clone());
            }
            return;
        }
        boolean noneYet = squares(java.util.Arrays.copyOf(row, at)) == 0;
        for (int u = -25; u <= 25; u++) {
            if (u * u <= left && (u >= 0 || !noneYet)) {
                row[at] = u;
                listRows(row, at + 1, left - u * u, into);
            }
        }
        row[at] = 0;
    }

    private static int squares(int[] row) {
        int sum = 0;
        for (int u : row) {
            sum += u * u;
        }
        return sum;
    }

    private static void net(RoundMill x, int m, int t, int[][] rows) {
        int[] due = firstThatFits(m, t, rows);
        String of = m + " " + t + " for " + due.length + ": ";
        Due.is(of + "shortest", x.shortest(0, due.length), squares(due));
        for (int k = 0; k < due.length; k++) {
            Due.is(of + "line", x.line(0, due.length, k), due[k]);
        }
    }

    private static int[] firstThatFits(int m, int t, int[][] rows) {
        for (int[] row : rows) {
            int sum = 0;
            for (int i = row.length - 1; i >= 0; i--) {
                sum = (sum * t + row[i]) % m;
            }
            if (sum == 0) {
                return row;
            }
        }
        throw new IllegalStateException("no row is listed for " + m + " " + t);
    }

    private static void oneRound(RoundMill x, int m, int t, int more) {
        x.more(0, 0, more);
        int at = 0;
        int turns = 0;
        do {
            at = (at * t + more) % m;
            turns++;
        } while (at != 0 && turns < m);
        Due.is(m + " " + t + " " + more + ": all", x.all(0), at == 0 && turns == m ? 1 : 0);
    }
}
