import java.util.function.Supplier;

/** Boundary cases of promises 10 to 12: turn, leap, back. */
final class BoundsOfTurns {
    /** Rows that go 500 turns round, seen from their first rest alone. */
    private static final int[][] COUNTING = {{1, 0, 1}, {0, 1, 0}};

    private BoundsOfTurns() {
    }

    static void test() {
        turn();
        leap();
        back();
    }

    private static void turn() {
        String of = "Promise 10";
        Sentences.says(of, "So many TURNS of the PLATE, one by one", () -> {
            RoundMill x = Made.wheel(9, 4);
            for (int turns = 1; turns <= 9; turns++) {
                Due.yes("turn " + turns, x.turn(0, turns));
                int by = turns * (turns + 1) / 2;
                Made.seePlate(x, "the wheel", by % 4 + 1, (by + 1) % 4 + 1, (by + 2) % 4 + 1, (by + 3) % 4 + 1);
            }
            x = Made.house(0, 8, new int[][] {{0, 2, 0, 0}, {0, 0, 2, 0}, {0, 0, 0, 1}});
            Made.plate(x, 0, 0, 1);
            x.turn(0, 1);
            Made.seePlate(x, "no way back, one", 0, 2, 1);
            x.turn(0, 1);
            Made.seePlate(x, "no way back, two", 4, 2, 1);
        });
        Sentences.says(of, ", 0 .. 5000: true", () -> {
            for (int turns : new int[] {0, 1, 2, 499, 500, 4999, 5000}) {
                RoundMill x = Made.house(0, 500, COUNTING);
                Made.plate(x, 7, 9);
                Due.yes("turn " + turns, x.turn(0, turns));
                Made.seePlate(x, "turn " + turns, (turns + 7) % 500, 9);
            }
        });
        Sentences.says(of, "; false for others", () -> {
            Supplier<RoundMill> houses = () -> Made.house(0, 500, COUNTING);
            for (int turns : new int[] {Made.LEAST, -5000, -1, 5001, 5002, 10000, Made.MOST}) {
                Made.refused(houses, "turn " + turns, x -> x.turn(0, turns));
            }
        });
        Sentences.says(of, ", or no such mill.", () -> {
            Supplier<RoundMill> houses = () -> Made.house(0, 500, COUNTING);
            for (int m : new int[] {Made.LEAST, -1, 1, 5, 6, Made.MOST}) {
                Made.refused(houses, "mill " + m, x -> x.turn(m, 1));
                Made.refused(houses, "mill " + m + " by 0", x -> x.turn(m, 0));
            }
        });
    }

    private static void leap() {
        String of = "Promise 11";
        Sentences.says(of, "So many TURNS of the PLATE at once", () -> {
            for (int turns : new int[] {1, 2, 3, 8, 31, 32, 33, 100, 5000}) {
                int[][] rows = {{3, 1, 4, 1, 5}, {9, 2, 6, 5, 3}, {5, 8, 9, 7, 9}, {3, 2, 3, 8, 4}};
                RoundMill x = Made.house(0, 500, rows);
                RoundMill y = Made.house(0, 500, rows);
                Made.plate(x, 1, 2, 3, 4);
                Made.plate(y, 1, 2, 3, 4);
                x.leap(0, turns);
                for (int i = 0; i < turns; i++) {
                    y = i % 300 == 299 ? again(y, rows) : y;
                    y.turn(0, 1);
                }
                Made.seePlate(x, "leap " + turns, y.rest(0, 0), y.rest(0, 1), y.rest(0, 2), y.rest(0, 3));
            }
        });
        Sentences.says(of, ", 0 and more: true", () -> {
            for (long turns : new long[] {0, 1, 5000, 5001, 1L << 31, (1L << 32) + 1, 1L << 62, Long.MAX_VALUE - 1,
                Long.MAX_VALUE}) {
                RoundMill x = Made.house(0, 500, COUNTING);
                Made.plate(x, 0, 9);
                Due.yes("leap " + turns, x.leap(0, turns));
                Made.seePlate(x, "leap " + turns, (int) (turns % 500), 9);
                x = Made.wheel(9, 4);
                Due.yes("leap of a wheel " + turns, x.leap(0, turns));
                Due.is("a wheel by " + turns, x.rest(0, 0), turns % 4 + 1);
            }
        });
        Sentences.says(of, "; false likewise.", () -> {
            Supplier<RoundMill> houses = () -> Made.house(0, 500, COUNTING);
            for (long turns : new long[] {Long.MIN_VALUE, Long.MIN_VALUE + 1, -(1L << 32), Made.LEAST, -2, -1}) {
                Made.refused(houses, "leap " + turns, x -> x.leap(0, turns));
            }
            for (int m : new int[] {Made.LEAST, -1, 1, 5, 6, Made.MOST}) {
                Made.refused(houses, "mill " + m, x -> x.leap(m, 1));
                Made.refused(houses, "mill " + m + " by 0", x -> x.leap(m, 0));
            }
        });
    }

    /** The same mill and plate in a new house, since a house is for 512 calls. */
    private static RoundMill again(RoundMill old, int[][] rows) {
        RoundMill x = Made.house(0, old.look(0, 1), rows);
        for (int r = 0; r < rows.length; r++) {
            x.plate(0, r, old.rest(0, r));
        }
        return x;
    }

    private static void back() {
        String of = "Promise 12";
        Sentences.says(of, "The PLATE becomes the one that so many TURNS bring to it", () -> {
            for (int m : new int[] {2, 3, 4, 9, 64, 210, 499, 500}) {
                RoundMill x = Made.house(0, m, new int[][] {{2, 1, 0, 5}, {1, 1, 0, 3}, {4, 7, m - 1, 1}});
                Made.plate(x, 1, m - 1, m / 2);
                Due.yes("back 3", x.back(0, 3));
                x.turn(0, 3);
                Made.seePlate(x, "back and on modulo " + m, 1, m - 1, m / 2);
                x.leap(0, 1_000_003);
                Due.yes("back as far", x.back(0, 1_000_003));
                Made.seePlate(x, "on and back modulo " + m, 1, m - 1, m / 2);
            }
        });
        Sentences.says(of, ", 0 and more: true", () -> {
            for (long turns : new long[] {0, 1, 499, 500, 501, 5001, 1L << 31, 1L << 62, Long.MAX_VALUE - 1,
                Long.MAX_VALUE}) {
                RoundMill x = Made.house(0, 500, COUNTING);
                Made.plate(x, 0, 9);
                Due.yes("back " + turns, x.back(0, turns));
                Made.seePlate(x, "back " + turns, (int) ((500 - turns % 500) % 500), 9);
            }
        });
        Sentences.says(of, "; false likewise", () -> {
            Supplier<RoundMill> houses = () -> Made.house(0, 500, COUNTING);
            for (long turns : new long[] {Long.MIN_VALUE, Long.MIN_VALUE + 1, Made.LEAST, -2, -1}) {
                Made.refused(houses, "back " + turns, x -> x.back(0, turns));
            }
            for (int m : new int[] {Made.LEAST, -1, 1, 5, 6, Made.MOST}) {
                Made.refused(houses, "mill " + m, x -> x.back(m, 1));
                Made.refused(houses, "mill " + m + " by 0", x -> x.back(m, 0));
            }
        });
        Sentences.says(of, ", or WORTH has a divisor with M.", () -> {
            int[][] shared = {{2, 0}, {2, 2}, {4, 2}, {6, 3}, {9, 6}, {256, 254}, {499, 0}, {500, 5}, {500, 2},
                {500, 250}, {500, 498}};
            for (int[] s : shared) {
                Supplier<RoundMill> houses = () -> Made.single(s[0], s[1], 1, 1);
                for (long turns : new long[] {0, 1, 2, Long.MAX_VALUE}) {
                    Made.refused(houses, s[1] + " in " + s[0] + " back " + turns, x -> x.back(0, turns));
                }
            }
            int[][] free = {{2, 1}, {4, 3}, {6, 5}, {9, 2}, {256, 255}, {499, 498}, {500, 3}, {500, 499}, {500, 21}};
            for (int[] f : free) {
                RoundMill x = Made.single(f[0], f[1], 1, 0);
                x.turn(0, 1);
                Due.yes(f[1] + " has no divisor with " + f[0], x.back(0, 1));
                Due.is("it came back", x.rest(0, 0), 0);
            }
        });
    }
}
