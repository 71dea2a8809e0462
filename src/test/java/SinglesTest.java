/** Promises 21 to 23: all, shortest, line. */
public final class SinglesTest {
    private SinglesTest() {
    }

    public static void main(String[] args) {
        for (int m = 2; m <= 40; m++) {
            for (int t = 0; t < m; t++) {
                for (int more = 0; more < m; more++) {
                    oneRound(m, t, more);
                }
            }
        }
        for (int m = 2; m <= 500; m++) {
            oneRound(m, 1, 1);
            oneRound(m, 61, 7);
            oneRound(m, m / 2 + 1, m - 1);
        }
        for (int m = 2; m <= 24; m++) {
            for (int t = 0; t < m; t++) {
                nets(m, t);
            }
        }
        for (int i = 0; i < 40; i++) {
            nets(500 - i, (i * i * 37 + 11) % (500 - i));
            nets(500 - i, i % 6 == 0 ? i / 6 : 500 - i - 1 - i / 6);
            nets(500 - 7 * i, (500 - 7 * i) / 2);
        }
        ties();
        wrong();
        Due.end();
    }

    private static void oneRound(int m, int t, int more) {
        RoundMill x = new RoundMill();
        x.mill(1, m, 1);
        x.table(0, 0, 0, t);
        x.more(0, 0, more);
        x.plate(0, 0, 1);
        int at = 0;
        int turns = 0;
        do {
            at = (at * (t % m) + more % m) % m;
            turns++;
        } while (at != 0 && turns < m);
        Due.is("all of " + m + " " + t + " " + more, x.all(0), at == 0 && turns == m ? 1 : 0);
    }

    private static void nets(int m, int t) {
        RoundMill x = new RoundMill();
        x.mill(1, m, 1);
        x.table(0, 0, 0, t);
        for (int neighbours = 2; neighbours <= 4; neighbours++) {
            String of = "net " + m + " " + t + " " + neighbours + ": ";
            int[] due = PlainMills.lineOf(t, m, neighbours);
            Due.is(of + "shortest", x.shortest(0, neighbours), due[neighbours]);
            for (int k = 0; k < neighbours; k++) {
                Due.is(of + "line " + k, x.line(0, neighbours, k), due[k]);
            }
            Due.is(of + "line behind its end", x.line(0, neighbours, neighbours), 501);
        }
    }

    private static void ties() {
        RoundMill x = new RoundMill();
        x.mill(1, 5, 1);
        x.table(0, 0, 0, 2);
        // 1, 2 and 2, -1 are as short
        Due.is("5 for two", x.shortest(0, 2), 5);
        Due.is("the first by u0", x.line(0, 2, 0), 1);
        Due.is("its u1", x.line(0, 2, 1), 2);
        x.table(0, 0, 0, 0);
        Due.is("found anew", x.shortest(0, 4), 1);
        for (int k = 0; k < 4; k++) {
            Due.is("0, 0, 0, 1 is first", x.line(0, 4, k), k == 3 ? 1 : 0);
        }
        x.table(0, 0, 0, 1);
        Due.is("2 for four", x.shortest(0, 4), 2);
        Due.is("0, 0, 1, -1", x.line(0, 4, 3), -1);
        x.drop(0);
        x.mill(1, 2, 1);
        Due.is("another mill's", x.shortest(0, 4), 1);
        x.table(0, 0, 0, 1);
        // 1, -1 comes ahead of 1, 1
        Due.is("2 for two", x.shortest(0, 2), 2);
        Due.is("u0 1", x.line(0, 2, 0), 1);
        Due.is("u1 -1", x.line(0, 2, 1), -1);
    }

    private static void wrong() {
        RoundMill x = new RoundMill();
        x.mill(1, 7, 1);
        x.mill(0, 7, 1);
        x.mill(2, 7, 1);
        x.mill(3, 7, 2);
        int[] neighbours = {Integer.MIN_VALUE, -1, 0, 1, 5, 6, Integer.MAX_VALUE};
        for (int n : neighbours) {
            Due.is("shortest for " + n, x.shortest(0, n), -1);
            Due.is("line for " + n, x.line(0, n, 0), 501);
            Due.is("line number " + n, x.line(0, 2, n), n == 0 ? 0 : n == 1 ? 1 : 501);
        }
        for (int m = -1; m <= 6; m++) {
            if (m != 0) {
                Due.is("no single " + m, x.all(m), -1);
                Due.is("no single to be short " + m, x.shortest(m, 2), -1);
                Due.is("no single to have a line " + m, x.line(m, 2, 0), 501);
            }
        }
    }
}
