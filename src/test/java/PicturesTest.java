import java.util.Random;

/** Promises 24 to 27: paint, picture, move, seen. */
public final class PicturesTest {
    private PicturesTest() {
    }

    public static void main(String[] args) {
        wrong();
        Random random = new Random(24);
        int[] measures = {2, 3, 4, 5, 6, 7, 8, 9, 10, 12, 15, 16, 20, 25, 27, 31, 32, 36, 49, 61, 63, 64};
        for (int m : measures) {
            for (int run = 0; run < 15; run++) {
                moved(random, m);
            }
        }
        cat();
        Due.end();
    }

    private static void wrong() {
        RoundMill x = new RoundMill();
        x.mill(3, 10, 2);
        x.mill(0, 10, 2);
        int[] off = {Integer.MIN_VALUE, -1, 10, 64, Integer.MAX_VALUE};
        for (int o : off) {
            Due.no("paint x " + o, x.paint(0, o, 0, 1));
            Due.no("paint y " + o, x.paint(0, 0, o, 1));
            Due.is("picture x " + o, x.picture(0, o, 0), -1);
            Due.is("picture y " + o, x.picture(0, 0, o), -1);
        }
        Due.yes("paint 255", x.paint(0, 9, 0, 255));
        Due.no("paint 256", x.paint(0, 9, 0, 256));
        Due.no("paint -1", x.paint(0, 9, 0, -1));
        Due.is("255 stays", x.picture(0, 9, 0), 255);
        Due.yes("paint 0", x.paint(0, 9, 0, 0));
        Due.is("0 again", x.picture(0, 9, 0), 0);
        Due.no("a free mill has no picture", x.paint(1, 0, 0, 1));
        Due.is("nor cells", x.picture(1, 0, 0), -1);
        x.table(1, 0, 0, 1);
        x.table(1, 1, 1, 1);
        Due.no("nor moves", x.move(1, 1));
        Due.is("nor is it seen", x.seen(1), -1);
        Due.no("worth 0", x.move(0, 0));
        Due.is("worth 0 seen", x.seen(0), -1);
        x.table(0, 0, 0, 5);
        x.table(0, 1, 1, 1);
        Due.no("worth 5", x.move(0, 1));
        x.table(0, 0, 0, 3);
        Due.no("move -1", x.move(0, -1));
        Due.no("move least", x.move(0, Long.MIN_VALUE));
        Due.yes("move 0", x.move(0, 0));
        Due.is("an empty picture", x.seen(0), 1);
    }

    private static void moved(Random random, int m) {
        RoundMill x = new RoundMill();
        PlainMills plain = new PlainMills();
        x.mill(3, m, 2);
        plain.mill(3, m, 2);
        do {
            for (int r = 0; r < 2; r++) {
                for (int c = 0; c < 2; c++) {
                    int v = random.nextInt(m);
                    x.table(0, r, c, v);
                    plain.table(0, r, c, v);
                }
                int v = random.nextInt(3) == 0 ? 0 : random.nextInt(m);
                x.more(0, r, v);
                plain.more(0, r, v);
            }
        } while (x.look(0, 4) == 0);
        paint(random, x, plain, m);
        String of = "picture " + m + ": ";
        Due.is(of + "seen", x.seen(0), plain.seen(0));
        long[] turns = {1, 2, 0, 3, 7, 64, 1_000_000_007L, Long.MAX_VALUE, x.seen(0), x.order(0)};
        for (long t : turns) {
            Due.yes(of + "move " + t, x.move(0, t));
            Due.yes("plain move", plain.move(0, t));
            for (int i = 0; i < 24; i++) {
                int a = random.nextInt(m);
                int b = random.nextInt(m);
                Due.is(of + "moved by " + t, x.picture(0, a, b), plain.picture(0, a, b));
            }
        }
        Due.is(of + "seen as before", x.seen(0), plain.seen(0));
    }

    /** A few cells, or, where 512 calls are enough for that, all in two colours that often look alike. */
    private static void paint(Random random, RoundMill x, PlainMills plain, int m) {
        if (m > 14 || random.nextBoolean()) {
            for (int i = 0; i < m + 3; i++) {
                int a = random.nextInt(m);
                int b = random.nextInt(m);
                int v = 1 + random.nextInt(2);
                x.paint(0, a, b, v);
                plain.paint(0, a, b, v);
            }
            return;
        }
        for (int a = 0; a < m; a++) {
            for (int b = 0; b < m; b++) {
                int v = (a + b) % 2;
                x.paint(0, a, b, v);
                plain.paint(0, a, b, v);
            }
        }
    }

    private static void cat() {
        RoundMill x = new RoundMill();
        x.mill(3, 64, 2);
        x.table(0, 0, 0, 2);
        x.table(0, 0, 1, 1);
        x.table(0, 1, 0, 1);
        x.table(0, 1, 1, 1);
        x.paint(0, 1, 0, 200);
        Due.yes("moved once", x.move(0, 1));
        Due.is("2 1 is the first column", x.picture(0, 2, 1), 200);
        Due.is("it is gone there", x.picture(0, 1, 0), 0);
        Due.is("the order", x.order(0), 48);
        Due.is("seen", x.seen(0), 48);
        x.mill(3, 64, 2);
        Due.is("another picture is empty", x.picture(1, 2, 1), 0);
        x.paint(0, 2, 1, 0);
        Due.is("nothing but 0", x.seen(0), 1);
    }
}
