import java.util.function.Predicate;
import java.util.function.Supplier;

/** Mills made for tests, and what is to be seen of them. */
final class Made {
    static final int LEAST = Integer.MIN_VALUE;
    static final int MOST = Integer.MAX_VALUE;
    /** Numbers that are no mill's in any house. */
    static final int[] NO_MILL = {LEAST, LEAST + 1, -1, 6, 7, MOST};

    private Made() {
    }

    /** A house whose mill 0 has been told nothing. */
    static RoundMill empty(int kind, int measure, int size) {
        RoundMill x = new RoundMill();
        Due.is("mill", x.mill(kind, measure, size), 0);
        return x;
    }

    /** A house whose mill 0 has these rows, each with its MORE behind its TABLE's rests. */
    static RoundMill house(int kind, int measure, int[][] rows) {
        RoundMill x = new RoundMill();
        Due.is("mill", x.mill(kind, measure, rows.length), 0);
        for (int r = 0; r < rows.length; r++) {
            for (int c = 0; c < rows.length; c++) {
                x.table(0, r, c, rows[r][c]);
            }
            x.more(0, r, rows[r][rows.length]);
        }
        return x;
    }

    /** A house whose mill 0 is SINGLE. */
    static RoundMill single(int measure, int table, int more, int plate) {
        RoundMill x = house(1, measure, new int[][] {{table, more}});
        x.plate(0, 0, plate);
        return x;
    }

    /** A house whose mill 0 is SHIFT and brings its first rest behind its last one: turns are seen in it. */
    static RoundMill wheel(int measure, int size) {
        RoundMill x = new RoundMill();
        Due.is("mill", x.mill(2, measure, size), 0);
        x.table(0, size - 1, 0, 1);
        for (int r = 0; r < size; r++) {
            x.plate(0, r, r + 1);
        }
        return x;
    }

    /** A house whose mill 0 is a PICTURE, with one cell painted. */
    static RoundMill painted(int measure, int[][] rows, int px, int py, int v) {
        RoundMill x = house(3, measure, rows);
        Due.yes("paint", x.paint(0, px, py, v));
        return x;
    }

    static void plate(RoundMill x, int... rests) {
        for (int r = 0; r < rests.length; r++) {
            Due.yes("plate " + r, x.plate(0, r, rests[r]));
        }
    }

    static void seePlate(RoundMill x, String call, int... due) {
        for (int r = 0; r < due.length; r++) {
            Due.is(call + ": rest " + r, x.rest(0, r), due[r]);
        }
    }

    /** All of mill 0 that can be told, of a picture its first 6 by 6 cells. */
    static String told(RoundMill x) {
        StringBuilder all = new StringBuilder();
        int n = x.look(0, 2);
        int cells = x.look(0, 0) == 3 ? 36 : 0;
        for (int r = 0; r < n; r++) {
            for (int c = 0; c <= n; c++) {
                all.append(x.cell(0, r, c)).append(' ');
            }
            all.append(x.rest(0, r)).append(", ");
        }
        for (int i = 0; i < cells; i++) {
            all.append(x.picture(0, i / 6, i % 6)).append(' ');
        }
        return all.toString();
    }

    /** A call that a house of its own refuses, and behind which its mill 0 is as it was. */
    static void refused(Supplier<RoundMill> houses, String call, Predicate<RoundMill> refusedCall) {
        RoundMill x = houses.get();
        String before = told(x);
        Due.no(call, refusedCall.test(x));
        Due.yes(call + ": nothing happens", told(x).equals(before));
    }

    /** What a mill answers to everything that can be asked of it, told nothing but its plate; some 140 calls. */
    static String answers(RoundMill x) {
        StringBuilder all = new StringBuilder();
        for (int i = 0; i < 6; i++) {
            all.append(x.look(0, i)).append(' ').append(x.rest(0, i)).append(' ');
            all.append(x.part(0, i / 4, i % 4)).append(' ').append(x.split(0, i / 4, i % 4)).append(' ');
            all.append(x.cell(0, i / 5, i % 5)).append(' ').append(x.picture(0, i / 2, i % 2)).append(' ');
            all.append(x.fixed(0, i)).append(' ').append(x.rounds(0, i)).append(' ').append(x.check(0, i)).append(' ');
        }
        for (int neighbours : new int[] {2, 3, 4, 2}) {
            all.append(x.shortest(0, neighbours)).append(' ').append(x.line(0, neighbours, 1)).append(' ');
        }
        all.append(x.all(0)).append(' ').append(x.order(0)).append(' ').append(x.seen(0)).append(' ');
        for (long turns : new long[] {2, 5, 1L << 20, Long.MAX_VALUE}) {
            for (int r = 0; r < 4; r++) {
                x.plate(0, r, r + 1);
            }
            all.append(x.tail(0)).append(' ').append(x.round(0)).append(' ').append(x.leap(0, turns)).append(' ');
            for (int r = 0; r < 4; r++) {
                all.append(x.rest(0, r)).append(' ');
            }
            all.append(x.back(0, turns)).append(' ').append(x.rest(0, 0)).append(' ');
        }
        return all.append(x.move(0, 3)).append(' ').append(x.picture(0, 1, 1)).toString();
    }

    static long power(long base, int often) {
        long product = 1;
        for (int i = 0; i < often; i++) {
            product *= base;
        }
        return product;
    }
}
