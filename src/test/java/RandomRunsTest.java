import java.util.Random;

/** Runs of 512 calls with any arguments in any state, held against the plain way of going through everything. */
public final class RandomRunsTest {
    private static final int[] EDGES = {
        Integer.MIN_VALUE, Integer.MIN_VALUE + 1, -500, -2, -1, 0, 1, 2, 3, 4, 5, 6, 7, 63, 64, 65, 255, 256, 499, 500,
        501, 5000, 5001, Integer.MAX_VALUE - 1, Integer.MAX_VALUE};
    private static final long[] LONG_EDGES = {
        Long.MIN_VALUE, Long.MIN_VALUE + 1, -1, 0, 1, 2, 1L << 31, 1L << 32, (1L << 62) - 1, 1L << 62,
        999_999_999_999L, 1_000_000_000_000L, 1_000_000_000_001L, Long.MAX_VALUE - 1, Long.MAX_VALUE};
    private static final int[][] SMALL = {{2, 4}, {3, 4}, {4, 4}, {5, 4}, {6, 4}, {6, 3}, {8, 3}, {9, 3}, {12, 3},
        {10, 3}, {15, 2}, {16, 2}, {27, 2}, {30, 2}, {32, 2}, {36, 2}, {25, 2}, {2, 2}, {2, 3}, {2, 1}, {3, 1}};

    private final Random random;
    private final RoundMill x = new RoundMill();
    private final PlainMills plain = new PlainMills();
    private int number;

    private RandomRunsTest(long seed) {
        random = new Random(seed);
    }

    public static void main(String[] args) {
        int runs = args.length > 0 ? Integer.parseInt(args[0]) : 400;
        long first = args.length > 1 ? Long.parseLong(args[1]) : 1;
        for (long seed = first; seed < first + runs; seed++) {
            RandomRunsTest run = new RandomRunsTest(seed);
            while (run.number < 510) {
                run.call(seed);
            }
        }
        Due.end();
    }

    private int pick(int from, int to) {
        return from + random.nextInt(to - from + 1);
    }

    /** Mostly a number of the range, sometimes one off its ends, sometimes any. */
    private int about(int from, int to) {
        int way = random.nextInt(24);
        if (way == 0) {
            return EDGES[random.nextInt(EDGES.length)];
        }
        if (way == 1) {
            return random.nextBoolean() ? from - 1 : to + 1;
        }
        return way == 2 ? random.nextInt() : pick(from, to);
    }

    private long turns() {
        int way = random.nextInt(5);
        if (way == 0) {
            return LONG_EDGES[random.nextInt(LONG_EDGES.length)];
        }
        if (way == 1) {
            return random.nextLong();
        }
        return way == 2 ? pick(0, 5000) : pick(0, 40);
    }

    private void due(long seed, String call, long got, long want) {
        number++;
        Due.is("seed " + seed + ", call " + number + ": " + call, got, want);
    }

    private void due(long seed, String call, boolean got, boolean want) {
        due(seed, call, got ? 1L : 0L, want ? 1L : 0L);
    }

    private void call(long seed) {
        int way = number < 6 ? 0 : random.nextInt(40);
        if (way < 1) {
            callMill(seed);
        } else if (way < 24) {
            callTurns(seed, about(0, 5), random.nextInt(24));
        } else if (way < 33) {
            callOthers(seed, about(0, 5), random.nextInt(8));
        } else {
            callTold(seed, random.nextInt(12));
        }
    }

    private void callMill(long seed) {
        if (random.nextInt(3) == 0) {
            int mill = about(0, 5);
            due(seed, "drop " + mill, x.drop(mill), plain.drop(mill));
        }
        int kind = about(0, 3);
        int[] shape = SMALL[random.nextInt(SMALL.length)];
        int measure = shape[0];
        int size = pick(1, shape[1]);
        if (kind == 1) {
            measure = about(2, 500);
            size = 1;
        } else if (kind == 3) {
            measure = pick(2, 32);
            size = 2;
        } else if (kind == 0 && size == 1) {
            measure = about(2, 500);
        }
        if (random.nextInt(10) == 0) {
            size = about(1, 1);
            measure = about(2, 20);
        }
        String call = "mill " + kind + " " + measure + " " + size;
        due(seed, call, x.mill(kind, measure, size), plain.mill(kind, measure, size));
    }

    private void callTurns(long seed, int m, int what) {
        int row = about(0, pick(0, 3));
        int column = about(0, pick(0, 3));
        int v = about(0, 30);
        long t = turns();
        String with = " " + m + " " + row + " " + column + " " + v + " " + t;
        switch (what) {
            case 0, 1, 2, 3, 4 -> due(seed, "table" + with, x.table(m, row, column, v), plain.table(m, row, column, v));
            case 5 -> due(seed, "more" + with, x.more(m, row, v), plain.more(m, row, v));
            case 6, 7 -> due(seed, "plate" + with, x.plate(m, row, v), plain.plate(m, row, v));
            case 8 -> due(seed, "look" + with, x.look(m, column), plain.look(m, column));
            case 9 -> due(seed, "cell" + with, x.cell(m, row, column), plain.cell(m, row, column));
            case 10 -> due(seed, "turn" + with, x.turn(m, v), plain.turn(m, v));
            case 11 -> due(seed, "leap" + with, x.leap(m, t), plain.leap(m, t));
            case 12 -> due(seed, "back" + with, x.back(m, t), plain.back(m, t));
            case 13 -> due(seed, "tail" + with, x.tail(m), plain.tail(m));
            case 14 -> due(seed, "round" + with, x.round(m), plain.round(m));
            case 15 -> due(seed, "order" + with, x.order(m), plain.order(m));
            case 16 -> due(seed, "fixed" + with, x.fixed(m, t), plain.fixed(m, t));
            case 17 -> {
                long round = random.nextBoolean() ? t : plain.round(m);
                due(seed, "rounds" + with, x.rounds(m, round), plain.rounds(m, round));
            }
            case 18 -> {
                long round = random.nextBoolean() ? t : plain.round(m) * pick(1, 2);
                due(seed, "check" + with, x.check(m, round), plain.check(m, round));
            }
            case 19 -> due(seed, "part" + with, x.part(m, row, column), plain.part(m, row, column));
            case 20 -> due(seed, "split" + with, x.split(m, row, column), plain.split(m, row, column));
            case 21 -> due(seed, "join" + with, x.join(m, row, column, v), plain.join(m, row, column, v));
            default -> due(seed, "rest" + with, x.rest(m, row), plain.rest(m, row));
        }
        if (what < 8) {
            due(seed, "cell after" + with, x.cell(m, row, column), plain.cell(m, row, column));
        } else if (what < 13 || what == 21) {
            int r = pick(0, 3);
            due(seed, "rest " + r + " after" + with, x.rest(m, r), plain.rest(m, r));
        }
    }

    private void callOthers(long seed, int m, int what) {
        int a = about(2, 4);
        int b = about(0, 3);
        int px = about(0, pick(0, 31));
        int py = about(0, pick(0, 31));
        int v = about(0, 255);
        long t = turns();
        String with = " " + m + " " + a + " " + b + " " + px + " " + py + " " + v + " " + t;
        switch (what) {
            case 0 -> due(seed, "all" + with, x.all(m), plain.all(m));
            case 1 -> due(seed, "shortest" + with, x.shortest(m, a), plain.shortest(m, a));
            case 2 -> due(seed, "line" + with, x.line(m, a, b), plain.line(m, a, b));
            case 3, 4 -> due(seed, "paint" + with, x.paint(m, px, py, v), plain.paint(m, px, py, v));
            case 5 -> due(seed, "picture" + with, x.picture(m, px, py), plain.picture(m, px, py));
            case 6 -> due(seed, "move" + with, x.move(m, t), plain.move(m, t));
            default -> due(seed, "seen" + with, x.seen(m), plain.seen(m));
        }
        if (what == 6) {
            due(seed, "picture after" + with, x.picture(m, px, py), plain.picture(m, px, py));
        }
    }

    private void callTold(long seed, int what) {
        int v = random.nextInt(3) == 0 ? about(0, 500) : pick(0, 1);
        int k = about(1, 4);
        switch (what) {
            case 0 -> {
                int p = random.nextInt(4) == 0 ? about(2, 499) : 2;
                if (random.nextInt(6) == 0) {
                    due(seed, "begin " + p, x.begin(p), plain.begin(p));
                }
            }
            case 1 -> due(seed, "least", x.least(), plain.least());
            case 2 -> due(seed, "shown", x.shown(), plain.shown());
            case 3, 4 -> due(seed, "rule " + k, x.rule(k), plain.rule(k));
            default -> due(seed, "tell " + v, x.tell(v), plain.tell(v));
        }
    }
}
