import java.util.function.Supplier;

/** Boundary cases of PARTS in term 2 and of promises 18 to 20: part, split, join. */
final class BoundsOfParts {
    private static final int[] NO_SUCH = {Made.LEAST, -1, 1, 5, 6, Made.MOST};
    /** Measures with what their parts are: prime, power, how often. */
    private static final int[][] PARTS = {{2, 2, 2, 1}, {3, 3, 3, 1}, {4, 2, 4, 2}, {256, 2, 256, 8}, {243, 3, 243, 5},
        {499, 499, 499, 1}, {6, 2, 2, 1, 3, 3, 1}, {500, 2, 4, 2, 5, 125, 3}, {498, 2, 2, 1, 3, 3, 1, 83, 83, 1},
        {210, 2, 2, 1, 3, 3, 1, 5, 5, 1, 7, 7, 1}, {420, 2, 4, 2, 3, 3, 1, 5, 5, 1, 7, 7, 1},
        {462, 2, 2, 1, 3, 3, 1, 7, 7, 1, 11, 11, 1}, {361, 19, 361, 2}, {486, 2, 2, 1, 3, 243, 5}};

    private BoundsOfParts() {
    }

    static void test() {
        part();
        split();
        join();
    }

    private static void part() {
        Sentences.says("Term 2", "PARTS of M: its primes' highest powers in it, the lesser prime first.", () -> {
            for (int[] due : PARTS) {
                RoundMill x = Made.single(due[0], 1, 0, 0);
                Due.is("parts of " + due[0], x.look(0, 5), due.length / 3);
                for (int k = 0; k < due.length / 3; k++) {
                    Due.is("prime " + k + " of " + due[0], x.part(0, k, 0), due[3 * k + 1]);
                }
            }
        });
        String of = "Promise 18";
        Sentences.says(of, "Of PART k of M, what 0: the prime, 1: the power of it, 2: how often it is in M", () -> {
            for (int[] due : PARTS) {
                RoundMill x = Made.single(due[0], 1, 0, 0);
                for (int i = 0; i < due.length - 1; i++) {
                    Due.is("part " + i / 3 + " of " + due[0] + " what " + i % 3, x.part(0, i / 3, i % 3), due[i + 1]);
                }
            }
        });
        Sentences.says(of, ", 3: WORTH modulo that power.", () -> {
            RoundMill x = Made.single(500, 499, 0, 0);
            Due.is("499 modulo 4", x.part(0, 0, 3), 3);
            Due.is("499 modulo 125", x.part(0, 1, 3), 124);
            x.table(0, 0, 0, 125);
            Due.is("125 modulo 4", x.part(0, 0, 3), 1);
            Due.is("125 modulo 125", x.part(0, 1, 3), 0);
            Due.is("the whole of a power", Made.single(256, 255, 0, 0).part(0, 0, 3), 255);
            Due.is("0 at first", Made.single(499, 0, 0, 0).part(0, 0, 3), 0);
        });
        Sentences.says(of, "NONE if there is none such.", () -> {
            for (int[] due : PARTS) {
                RoundMill x = Made.single(due[0], 1, 0, 0);
                int count = due.length / 3;
                for (int k : new int[] {Made.LEAST, -1, count, count + 1, 4, Made.MOST}) {
                    for (int what = 0; what <= 3; what++) {
                        Due.is("part " + k + " of " + due[0] + " what " + what, x.part(0, k, what), -1);
                    }
                }
                for (int what : new int[] {Made.LEAST, -1, 4, 5, Made.MOST}) {
                    Due.is("part 0 of " + due[0] + " what " + what, x.part(0, 0, what), -1);
                }
                for (int m : NO_SUCH) {
                    Due.is("mill " + m, x.part(m, 0, 0), -1);
                }
            }
        });
    }

    private static void split() {
        String of = "Promise 19";
        Sentences.says(of, "Rest r of the PLATE modulo PART k", () -> {
            RoundMill x = new RoundMill();
            x.mill(0, 500, 4);
            Made.plate(x, 0, 3, 125, 499);
            int[][] due = {{0, 3, 1, 3}, {0, 3, 0, 124}};
            for (int k = 0; k < 2; k++) {
                for (int r = 0; r < 4; r++) {
                    Due.is("part " + k + " rest " + r, x.split(0, k, r), due[k][r]);
                }
            }
            Due.is("of the only part", Made.single(499, 0, 0, 498).split(0, 0, 0), 498);
            Due.is("of the last of four", Made.single(210, 0, 0, 209).split(0, 3, 0), 6);
        });
        Sentences.says(of, "; NONE if there is none such.", () -> {
            for (int[] due : PARTS) {
                RoundMill x = new RoundMill();
                x.mill(0, due[0], 2);
                int count = due.length / 3;
                for (int k : new int[] {Made.LEAST, -1, count, count + 1, 4, Made.MOST}) {
                    Due.is("part " + k + " of " + due[0], x.split(0, k, 0), -1);
                }
                for (int r : new int[] {Made.LEAST, -1, 2, 3, 4, Made.MOST}) {
                    Due.is("rest " + r, x.split(0, 0, r), -1);
                }
                for (int m : NO_SUCH) {
                    Due.is("mill " + m, x.split(m, 0, 0), -1);
                }
            }
        });
    }

    private static void join() {
        String of = "Promise 20";
        Sentences.says(of, "Rest r of the PLATE becomes the one that is v modulo PART k, as it is modulo the"
            + " others: true", () -> {
                RoundMill x = Made.single(12, 0, 0, 7);
                Due.yes("2 modulo 4", x.join(0, 0, 0, 2));
                Due.is("1 modulo 3 still", x.rest(0, 0), 10);
                Due.yes("v from the part on", x.join(0, 1, 0, 3));
                Due.is("0 modulo 3", x.rest(0, 0), 6);
                Due.yes("v below 0", x.join(0, 0, 0, -1));
                Due.is("3 modulo 4", x.rest(0, 0), 3);
                Due.yes("the least v", x.join(0, 1, 0, Made.LEAST));
                Due.is("-2^31 is 1 modulo 3", x.rest(0, 0), 7);
                x.plate(0, 0, 4);
                Due.yes("the most v", x.join(0, 0, 0, Made.MOST));
                Due.is("2^31 - 1 is 3 modulo 4", x.rest(0, 0), 7);
                x = Made.single(499, 0, 0, 498);
                Due.yes("the only part", x.join(0, 0, 0, -2));
                Due.is("all of it", x.rest(0, 0), 497);
                x = new RoundMill();
                x.mill(2, 210, 4);
                Made.plate(x, 209, 209, 209, 209);
                Due.yes("the last part", x.join(0, 3, 3, 0));
                Made.seePlate(x, "the others stay", 209, 209, 209, 119);
            });
        Sentences.says(of, "; false if there is none such.", () -> {
            for (int[] due : PARTS) {
                Supplier<RoundMill> houses = () -> {
                    RoundMill x = Made.house(0, due[0], new int[][] {{1, 0, 0}, {0, 1, 0}});
                    Made.plate(x, 1, 0);
                    return x;
                };
                int count = due.length / 3;
                for (int k : new int[] {Made.LEAST, -1, count, count + 1, 4, Made.MOST}) {
                    Made.refused(houses, "part " + k + " of " + due[0], x -> x.join(0, k, 0, 0));
                }
                for (int r : new int[] {Made.LEAST, -1, 2, 3, Made.MOST}) {
                    Made.refused(houses, "rest " + r, x -> x.join(0, 0, r, 0));
                }
                for (int m : NO_SUCH) {
                    Made.refused(houses, "mill " + m, x -> x.join(m, 0, 0, 0));
                }
            }
        });
    }
}
