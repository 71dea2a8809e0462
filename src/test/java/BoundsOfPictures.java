import java.util.function.Supplier;

/** Boundary cases of PICTURE in term 1 and of promises 24 to 27: paint, picture, move, seen. */
final class BoundsOfPictures {
    private static final int[][] STILL = {{1, 0, 0}, {0, 1, 0}};
    private static final int[][] ALONG_X = {{1, 0, 1}, {0, 1, 0}};
    /** x y goes to 2 x + y + 1, x + y + 2. */
    private static final int[][] CAT = {{2, 1, 1}, {1, 1, 2}};

    private BoundsOfPictures() {
    }

    static void test() {
        kind();
        paint();
        picture();
        move();
        seen();
    }

    /** A house whose mill 0 is a PICTURE of 7, with one of each other kind behind it. */
    private static RoundMill withOthers() {
        RoundMill x = Made.painted(7, STILL, 3, 4, 77);
        x.mill(0, 7, 2);
        x.mill(1, 7, 1);
        x.mill(2, 7, 2);
        for (int m = 1; m <= 3; m++) {
            x.table(m, 0, 0, 1);
            x.table(m, 1, 1, 1);
        }
        x.table(3, 1, 0, 1);
        return x;
    }

    private static void kind() {
        String of = "Kinds";
        Sentences.says(of, ", with a picture of M by M cells (0 .. 255, 0 at first)", () -> {
            for (int m : new int[] {2, 3, 20}) {
                RoundMill x = new RoundMill();
                x.mill(3, m, 2);
                for (int i = 0; i < m * m; i++) {
                    Due.is("0 at first at " + i / m + " " + i % m, x.picture(0, i / m, i % m), 0);
                }
            }
            RoundMill x = new RoundMill();
            x.mill(3, 15, 2);
            for (int i = 0; i < 225; i++) {
                Due.yes("paint " + i / 15 + " " + i % 15, x.paint(0, i / 15, i % 15, i + 31));
            }
            for (int i = 0; i < 225; i++) {
                Due.is("its own cell " + i / 15 + " " + i % 15, x.picture(0, i / 15, i % 15), i + 31);
            }
            x = Made.painted(64, STILL, 63, 63, 255);
            Due.is("the last cell of the greatest one", x.picture(0, 63, 63), 255);
            x.drop(0);
            x.mill(3, 64, 2);
            Due.is("0 at first where another one was", x.picture(0, 63, 63), 0);
            Due.is("each has its own", x.mill(3, 64, 2), 1);
            x.paint(1, 5, 5, 8);
            Due.is("the other one's", x.picture(0, 5, 5), 0);
        });
        Sentences.says(of, ": its cells go with their places: a TURN brings the cell at x, y to where the PLATE"
            + " x, y goes", () -> {
                for (int m : new int[] {2, 3, 10, 63, 64}) {
                    for (int[] p : new int[][] {{0, 0}, {1, 0}, {0, 1}, {m - 1, m - 1}, {m - 1, 0}}) {
                        RoundMill x = Made.painted(m, CAT, p[0], p[1], 9);
                        Made.plate(x, p[0], p[1]);
                        for (int turns = 1; turns <= 3; turns++) {
                            x.turn(0, 1);
                            x.move(0, 1);
                            Due.is("where the plate goes modulo " + m, x.picture(0, x.rest(0, 0), x.rest(0, 1)), 9);
                        }
                    }
                }
            });
        Sentences.says(of, "; its TABLE's WORTH has to have no divisor with M for this.", () -> {
            RoundMill x = Made.painted(10, CAT, 1, 1, 9);
            Due.yes("worth 1", x.move(0, 1));
            x.table(0, 0, 0, 3);
            Due.no("worth 2", x.move(0, 1));
            x.table(0, 0, 0, 4);
            Due.yes("worth 3", x.move(0, 1));
            x.table(0, 0, 0, 6);
            Due.no("worth 5", x.move(0, 1));
            Due.yes("the plate turns all the same", x.turn(0, 1));
        });
    }

    private static void paint() {
        String of = "Promise 24";
        Sentences.says(of, "A cell of a PICTURE becomes v, 0 .. 255: true", () -> {
            RoundMill x = Made.painted(7, STILL, 0, 0, 1);
            for (int v : new int[] {255, 0, 1, 254, 128, 127}) {
                Due.yes("paint " + v, x.paint(0, 6, 0, v));
                Due.is("painted " + v, x.picture(0, 6, 0), v);
                Due.is("not the other way about", x.picture(0, 0, 6), 0);
                Due.is("no other one", x.picture(0, 0, 0), 1);
            }
        });
        Sentences.says(of, "; false: no such PICTURE", () -> {
            Supplier<RoundMill> houses = BoundsOfPictures::withOthers;
            for (int m : new int[] {Made.LEAST, -1, 1, 2, 3, 4, 5, 6, Made.MOST}) {
                Made.refused(houses, "mill " + m, x -> x.paint(m, 0, 0, 5));
            }
        });
        Sentences.says(of, ", place (0 .. M - 1)", () -> {
            for (int m : new int[] {2, 7, 63, 64}) {
                RoundMill x = Made.painted(m, STILL, m - 1, m - 1, 1);
                Due.yes("0 0", x.paint(0, 0, 0, 2));
                Due.yes("M - 1, M - 1", x.paint(0, m - 1, m - 1, 3));
                for (int off : new int[] {Made.LEAST, -1, m, 64, 65, Made.MOST}) {
                    Due.no("x " + off + " of " + m, x.paint(0, off, 0, 5));
                    Due.no("y " + off + " of " + m, x.paint(0, 0, off, 5));
                    Due.no("y " + off + " in the last row of " + m, x.paint(0, m - 1, off, 5));
                    Due.no("both " + off + " of " + m, x.paint(0, off, off, 5));
                }
                for (int i = 0; i < m; i++) {
                    Due.is("nothing happens at 0 " + i, x.picture(0, 0, i), i == 0 ? 2 : 0);
                    Due.is("nothing happens at 1 " + i, x.picture(0, 1, i), i == 1 && m == 2 ? 3 : 0);
                    Due.is("nothing happens at the end " + i, x.picture(0, m - 1, i), i == m - 1 ? 3 : 0);
                }
            }
        });
        Sentences.says(of, ", v.", () -> {
            Supplier<RoundMill> houses = () -> Made.painted(5, STILL, 1, 1, 9);
            for (int v : new int[] {Made.LEAST, -256, -255, -1, 256, 257, 511, 512, Made.MOST}) {
                Made.refused(houses, "paint " + v, x -> x.paint(0, 1, 1, v));
            }
        });
    }

    private static void picture() {
        String of = "Promise 25";
        Sentences.says(of, "A cell of a PICTURE", () -> {
            RoundMill x = Made.painted(64, STILL, 63, 0, 200);
            Due.is("the cell", x.picture(0, 63, 0), 200);
            Due.is("the other way about", x.picture(0, 0, 63), 0);
            Due.is("WORTH has a divisor with M: it is there all the same", Made.painted(8, new int[][] {{2, 0, 0},
                {0, 2, 0}}, 7, 7, 3).picture(0, 7, 7), 3);
        });
        Sentences.says(of, "; NONE: no such PICTURE", () -> {
            RoundMill x = withOthers();
            for (int m : new int[] {Made.LEAST, -1, 1, 2, 3, 4, 5, 6, Made.MOST}) {
                Due.is("mill " + m, x.picture(m, 0, 0), -1);
            }
        });
        Sentences.says(of, ", place.", () -> {
            for (int m : new int[] {2, 7, 63, 64}) {
                RoundMill x = Made.painted(m, STILL, m - 1, m - 1, 1);
                for (int off : new int[] {Made.LEAST, -1, m, 64, 65, Made.MOST}) {
                    Due.is("x " + off + " of " + m, x.picture(0, off, 0), -1);
                    Due.is("y " + off + " of " + m, x.picture(0, 0, off), -1);
                    Due.is("y " + off + " in the last row of " + m, x.picture(0, m - 1, off), -1);
                    Due.is("both " + off + " of " + m, x.picture(0, off, off), -1);
                }
            }
        });
    }

    private static void move() {
        String of = "Promise 26";
        Sentences.says(of, "The picture is moved by so many TURNS at once, 0 and more: true", () -> {
            for (long turns : new long[] {0, 1, 2, 63, 64, 65, 5001, 1L << 31, (1L << 32) + 1, 1L << 62,
                Long.MAX_VALUE - 1, Long.MAX_VALUE}) {
                RoundMill x = Made.painted(63, ALONG_X, 5, 7, 9);
                int to = (int) ((5 + turns % 63) % 63);
                Due.yes("move " + turns, x.move(0, turns));
                for (int i = 0; i < 63; i++) {
                    Due.is("moved by " + turns + " at " + i, x.picture(0, i, 7), i == to ? 9 : 0);
                }
                Due.is("its plate stays", x.rest(0, 0), 0);
            }
            RoundMill x = Made.painted(5, CAT, 1, 2, 9);
            RoundMill y = Made.painted(5, CAT, 1, 2, 9);
            x.move(0, 3);
            for (int i = 0; i < 3; i++) {
                y.move(0, 1);
            }
            for (int i = 0; i < 25; i++) {
                Due.is("3 at once at " + i, x.picture(0, i / 5, i % 5), y.picture(0, i / 5, i % 5));
            }
        });
        Sentences.says(of, "; false: no such PICTURE", () -> {
            Supplier<RoundMill> houses = () -> {
                RoundMill x = withOthers();
                x.more(0, 0, 1);
                return x;
            };
            for (int m : new int[] {Made.LEAST, -1, 1, 2, 3, 4, 5, 6, Made.MOST}) {
                Made.refused(houses, "mill " + m, x -> x.move(m, 1));
            }
        });
        Sentences.says(of, ", turns", () -> {
            Supplier<RoundMill> houses = () -> Made.painted(5, ALONG_X, 1, 1, 9);
            for (long turns : new long[] {Long.MIN_VALUE, Long.MIN_VALUE + 1, Made.LEAST, -5, -1}) {
                Made.refused(houses, "move " + turns, x -> x.move(0, turns));
            }
        });
        Sentences.says(of, ", or its WORTH has a divisor with M.", () -> {
            int[][] shared = {{2, 0}, {4, 2}, {6, 3}, {6, 4}, {9, 6}, {64, 62}, {61, 0}, {63, 21}};
            for (int[] s : shared) {
                Supplier<RoundMill> houses = () -> Made.painted(s[0], new int[][] {{s[1], 0, 1}, {0, 1, 1}}, 1, 1, 9);
                for (long turns : new long[] {0, 1, Long.MAX_VALUE}) {
                    Made.refused(houses, s[1] + " in " + s[0] + " move " + turns, x -> x.move(0, turns));
                }
            }
            int[][] free = {{2, 1}, {4, 3}, {6, 5}, {9, 2}, {64, 63}, {61, 60}, {63, 62}};
            for (int[] f : free) {
                RoundMill x = Made.painted(f[0], new int[][] {{f[1], 0, 1}, {0, 1, 1}}, 1, 0, 9);
                Due.yes(f[1] + " has no divisor with " + f[0], x.move(0, 1));
                Due.is("it went", x.picture(0, (f[1] + 1) % f[0], 1), 9);
            }
        });
    }

    private static void seen() {
        String of = "Promise 27";
        Sentences.says(of, "The least number of TURNS, 1 and more, by which the picture looks as it does now", () -> {
            RoundMill x = new RoundMill();
            x.mill(3, 64, 2);
            for (int r = 0; r < 2; r++) {
                x.table(0, r, r, 1);
            }
            x.more(0, 0, 1);
            Due.is("an empty one: 1 at least", x.seen(0), 1);
            x.paint(0, 3, 3, 255);
            Due.is("one cell", x.seen(0), 64);
            x.paint(0, 35, 3, 255);
            Due.is("two cells, half way round", x.seen(0), 32);
            x.paint(0, 35, 3, 254);
            Due.is("of two colours", x.seen(0), 64);
            x.move(0, 7);
            Due.is("as it does now", x.seen(0), 64);
            x.paint(0, 10, 3, 0);
            x.paint(0, 42, 3, 0);
            Due.is("an empty one again", x.seen(0), 1);
            Due.is("still", Made.painted(64, STILL, 1, 1, 1).seen(0), 1);
            Due.is("by a wheel of 2", Made.painted(64, new int[][] {{0, 1, 0}, {1, 0, 0}}, 1, 2, 1).seen(0), 2);
            Due.is("where it stays", Made.painted(64, new int[][] {{0, 1, 0}, {1, 0, 0}}, 2, 2, 1).seen(0), 1);
            for (int m : new int[] {2, 3, 5, 8}) {
                RoundMill stripes = Made.house(3, m, CAT);
                for (int i = 0; i < m * m; i++) {
                    stripes.paint(0, i / m, i % m, 1 + i);
                }
                Due.is("each cell another one's colour modulo " + m, stripes.seen(0), stripes.order(0));
                for (int i = 0; i < m * m; i++) {
                    stripes.paint(0, i / m, i % m, 255);
                }
                Due.is("all of one colour modulo " + m, stripes.seen(0), 1);
            }
            Due.is("the longest of all", Made.painted(61, new int[][] {{0, 1, 0}, {59, 1, 0}}, 1, 2, 1).seen(0),
                61 * 61 - 1);
        });
        Sentences.says(of, "; NONE likewise.", () -> {
            RoundMill x = withOthers();
            for (int m : new int[] {Made.LEAST, -1, 1, 2, 3, 4, 5, 6, Made.MOST}) {
                Due.is("mill " + m, x.seen(m), -1);
            }
            int[][] shared = {{2, 0}, {4, 2}, {6, 3}, {6, 4}, {9, 6}, {64, 62}, {61, 0}, {63, 21}};
            for (int[] s : shared) {
                RoundMill y = Made.painted(s[0], new int[][] {{s[1], 0, 0}, {0, 1, 0}}, 0, 0, 9);
                Due.is(s[1] + " in " + s[0], y.seen(0), -1);
                y.paint(0, 0, 0, 0);
                Due.is(s[1] + " in " + s[0] + ", an empty one", y.seen(0), -1);
            }
        });
    }
}
