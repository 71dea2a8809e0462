/** Promises 1 to 9: a new object, mill, drop, table, more, plate, look, rest, cell. */
public final class HouseTest {
    private static final int[] NO_MILL = {Integer.MIN_VALUE, -1, 6, 7, 1000, Integer.MAX_VALUE};

    private HouseTest() {
    }

    public static void main(String[] args) {
        newObject();
        mills();
        dropped();
        tables();
        shiftTables();
        worths();
        Due.end();
    }

    private static void newObject() {
        RoundMill x = new RoundMill();
        for (int m = -1; m <= 6; m++) {
            nothingAt(x, m);
        }
        Due.is("least of nothing", x.least(), 0);
        Due.is("shown of nothing", x.shown(), 1);
        Due.is("rule of nothing", x.rule(1), -1);
        Due.is("told 3 modulo 2", x.tell(3), 1);
        Due.is("least of 1", x.least(), 1);
        Due.is("rule of 1", x.rule(1), 0);
        Due.is("told 1 modulo 2", x.tell(-1), 2);
        Due.is("rule of 1, 1", x.rule(1), 1);
    }

    static void nothingAt(RoundMill x, int m) {
        String no = "without a mill " + m + ": ";
        Due.no(no + "drop", x.drop(m));
        Due.no(no + "table", x.table(m, 0, 0, 1));
        Due.no(no + "more", x.more(m, 0, 1));
        Due.no(no + "plate", x.plate(m, 0, 1));
        Due.is(no + "look", x.look(m, 0), -1);
        Due.is(no + "rest", x.rest(m, 0), -1);
        Due.is(no + "cell", x.cell(m, 0, 0), -1);
        Due.no(no + "turn", x.turn(m, 1));
        Due.no(no + "leap", x.leap(m, 1));
        Due.no(no + "back", x.back(m, 1));
        Due.is(no + "tail", x.tail(m), -1);
        Due.is(no + "round", x.round(m), -1);
        Due.is(no + "order", x.order(m), -1);
        Due.is(no + "fixed", x.fixed(m, 1), -1);
        Due.is(no + "rounds", x.rounds(m, 1), -1);
        Due.is(no + "part", x.part(m, 0, 0), -1);
        Due.is(no + "split", x.split(m, 0, 0), -1);
        Due.no(no + "join", x.join(m, 0, 0, 0));
        Due.is(no + "all", x.all(m), -1);
        Due.is(no + "shortest", x.shortest(m, 2), -1);
        Due.is(no + "line", x.line(m, 2, 0), 501);
        Due.no(no + "paint", x.paint(m, 0, 0, 1));
        Due.is(no + "picture", x.picture(m, 0, 0), -1);
        Due.no(no + "move", x.move(m, 1));
        Due.is(no + "seen", x.seen(m), -1);
        Due.is(no + "check", x.check(m, 1), -1);
    }

    private static void mills() {
        int[][] wrong = {{-1, 7, 1}, {4, 7, 1}, {0, 1, 1}, {0, 501, 1}, {0, 0, 1}, {0, -7, 1}, {0, 7, 0}, {0, 7, 5},
            {0, 7, -1}, {1, 7, 2}, {1, 7, 0}, {2, 7, 0}, {2, 7, 5}, {3, 7, 1}, {3, 7, 3}, {3, 65, 2}, {3, 1, 2},
            {Integer.MAX_VALUE, 7, 1}, {0, Integer.MIN_VALUE, 1}, {0, 7, Integer.MAX_VALUE}};
        int[][] right = {{0, 2, 1}, {0, 500, 4}, {1, 2, 1}, {1, 500, 1}, {2, 500, 4}, {2, 2, 1}, {3, 2, 2}, {3, 64, 2}};
        RoundMill x = new RoundMill();
        for (int[] w : wrong) {
            Due.is("no such mill " + w[0] + " " + w[1] + " " + w[2], x.mill(w[0], w[1], w[2]), -1);
        }
        for (int[] r : right) {
            String call = "mill " + r[0] + " " + r[1] + " " + r[2];
            Due.is(call, x.mill(r[0], r[1], r[2]), 0);
            for (int what = 0; what < 3; what++) {
                Due.is(call + " look " + what, x.look(0, what), r[what]);
            }
            Due.yes("drop", x.drop(0));
        }
        for (int i = 0; i < 6; i++) {
            Due.is("mill after mill", x.mill(i % 3, 9, 1), i);
        }
        Due.is("a seventh", x.mill(0, 9, 1), -1);
        for (int m : NO_MILL) {
            nothingAt(x, m);
        }
    }

    private static void dropped() {
        RoundMill x = new RoundMill();
        for (int i = 0; i < 6; i++) {
            x.mill(3, 5, 2);
            x.table(i, 0, 0, 2);
            x.table(i, 1, 1, 3);
            x.more(i, 1, 4);
            x.plate(i, 0, 3);
            x.paint(i, 1, 2, 77);
            x.order(i);
        }
        Due.yes("drop 4", x.drop(4));
        Due.yes("drop 1", x.drop(1));
        Due.no("drop 1 again", x.drop(1));
        nothingAt(x, 1);
        nothingAt(x, 4);
        Due.is("others stay", x.picture(0, 1, 2), 77);
        Due.is("the least free", x.mill(3, 5, 2), 1);
        Due.is("all is 0 at first", x.cell(1, 0, 0) + x.cell(1, 1, 1) + x.cell(1, 1, 2) + x.rest(1, 0), 0);
        Due.is("its picture is 0 at first", x.picture(1, 1, 2), 0);
        Due.is("its order is found anew", x.order(1), -1);
        Due.is("its worth", x.look(1, 3), 0);
        Due.is("the next free", x.mill(1, 7, 1), 4);
        Due.is("none free", x.mill(1, 7, 1), -1);
        Due.is("a picture no more", x.picture(4, 1, 2), -1);
    }

    private static void tables() {
        RoundMill x = new RoundMill();
        x.mill(0, 12, 3);
        int[] values = {0, 5, 11, 12, 13, -1, -12, -13, Integer.MIN_VALUE, Integer.MAX_VALUE};
        for (int v : values) {
            int due = Math.floorMod(v, 12);
            Due.yes("table " + v, x.table(0, 2, 1, v));
            Due.is("its cell", x.cell(0, 2, 1), due);
            Due.yes("more " + v, x.more(0, 1, v));
            Due.is("its cell of more", x.cell(0, 1, 3), due);
            Due.yes("plate " + v, x.plate(0, 2, v));
            Due.is("its rest", x.rest(0, 2), due);
        }
        int[] off = {Integer.MIN_VALUE, -1, 3, 4, 5, Integer.MAX_VALUE};
        for (int o : off) {
            Due.no("table row " + o, x.table(0, o, 0, 1));
            Due.no("table column " + o, x.table(0, 0, o, 1));
            Due.no("more row " + o, x.more(0, o, 1));
            Due.no("plate row " + o, x.plate(0, o, 1));
            Due.is("rest row " + o, x.rest(0, o), -1);
            Due.is("cell row " + o, x.cell(0, o, 0), -1);
            Due.is("cell column " + o, x.cell(0, 0, o), o == 3 ? 0 : -1);
            Due.is("look " + (o + 3), x.look(0, o < 0 ? o : o + 3), -1);
        }
        int told = 0;
        for (int r = 0; r < 3; r++) {
            for (int c = 0; c < 4; c++) {
                told += x.cell(0, r, c) != 0 ? 1 : 0;
            }
        }
        Due.is("nothing else was told", told, 2);
    }

    private static void shiftTables() {
        for (int size = 1; size <= 4; size++) {
            RoundMill x = new RoundMill();
            x.mill(2, 10, size);
            for (int r = 0; r < size; r++) {
                boolean last = r == size - 1;
                for (int c = 0; c < size; c++) {
                    String at = "shift " + size + " at " + r + " " + c;
                    Due.is(at + " at first", x.cell(0, r, c), !last && c == r + 1 ? 1 : 0);
                    Due.is(at + " told", x.table(0, r, c, 7), last);
                    Due.is(at + " then", x.cell(0, r, c), last ? 7 : c == r + 1 ? 1 : 0);
                }
                Due.is("shift more " + r, x.more(0, r, 3), last);
                Due.is("shift more then " + r, x.cell(0, r, size), last ? 3 : 0);
                Due.yes("shift plate " + r, x.plate(0, r, r + 1));
            }
            x.turn(0, 1);
            for (int r = 0; r < size - 1; r++) {
                Due.is("shifted " + r, x.rest(0, r), r + 2);
            }
            Due.is("shifted last", x.rest(0, size - 1), (7 * size * (size + 1) / 2 + 3) % 10);
        }
    }

    private static void worths() {
        RoundMill x = new RoundMill();
        x.mill(0, 500, 4);
        int[][] table = {{2, 0, 1, 3}, {0, 5, 0, 1}, {7, 1, 0, 2}, {1, 0, 4, 0}};
        for (int r = 0; r < 4; r++) {
            for (int c = 0; c < 4; c++) {
                x.table(0, r, c, table[r][c]);
            }
        }
        Due.is("worth of four", x.look(0, 3), determinant(table) % 500);
        for (int m = 2; m <= 500; m++) {
            x.drop(1);
            x.mill(1, m, 1);
            x.table(1, 0, 0, m - 2);
            Due.is("worth modulo " + m, x.look(1, 3), m - 2);
            Due.is("no divisor modulo " + m, x.look(1, 4), m % 2);
            int parts = 0;
            for (int p = 2, left = m; p <= left; p++) {
                parts += left % p == 0 ? 1 : 0;
                while (left % p == 0) {
                    left /= p;
                }
            }
            Due.is("parts of " + m, x.look(1, 5), parts);
            if (m % 30 == 0) {
                x = new RoundMill();
                x.mill(0, 2, 1);
            }
        }
    }

    private static int determinant(int[][] t) {
        int sum = 0;
        for (int a = 0; a < 4; a++) {
            for (int b = 0; b < 4; b++) {
                for (int c = 0; c < 4; c++) {
                    int d = 6 - a - b - c;
                    if (a != b && a != c && b != c && d >= 0 && d < 4) {
                        int swaps = (a > b ? 1 : 0) + (a > c ? 1 : 0) + (a > d ? 1 : 0) + (b > c ? 1 : 0)
                            + (b > d ? 1 : 0) + (c > d ? 1 : 0);
                        sum += (swaps % 2 == 0 ? 1 : -1) * t[0][a] * t[1][b] * t[2][c] * t[3][d];
                    }
                }
            }
        }
        return Math.floorMod(sum, 500);
    }
}
