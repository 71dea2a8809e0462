/** Boundary cases of term 3 and of promises 21 to 23: all, shortest, line. */
final class BoundsOfNets {
    private BoundsOfNets() {
    }

    static void test() {
        terms();
        all();
        shortest();
        line();
    }

    /** A house whose mill 0 is SINGLE, with one of each other kind behind it, of size 1 where it can be. */
    private static RoundMill withOthers() {
        RoundMill x = Made.single(7, 3, 1, 0);
        x.mill(0, 7, 1);
        x.mill(2, 7, 1);
        x.mill(3, 7, 2);
        x.table(1, 0, 0, 3);
        x.more(1, 0, 1);
        x.table(2, 0, 0, 3);
        x.more(2, 0, 1);
        return x;
    }

    private static void seeLine(int measure, int table, int... due) {
        RoundMill x = Made.single(measure, table, 0, 0);
        int squares = 0;
        for (int k = 0; k < due.length; k++) {
            squares += due[k] * due[k];
            Due.is(measure + " " + table + ": number " + k + " of " + due.length, x.line(0, due.length, k), due[k]);
        }
        Due.is(measure + " " + table + ": short for " + due.length, x.shortest(0, due.length), squares);
    }

    private static int[] plainLine(int measure, int table, int neighbours) {
        return java.util.Arrays.copyOf(PlainMills.lineOf(table, measure, neighbours), neighbours);
    }

    private static void terms() {
        String of = "Term 3";
        Sentences.says(of, "NETS, of a SINGLE mill, for 2 to 4 neighbours", () -> {
            seeLine(7, 3, 1, 2);
            // 1 - 3 + 9, and 1 + 27
            seeLine(7, 3, 1, -1, 1);
            seeLine(7, 3, 1, 0, 0, 1);
            seeLine(97, 40, plainLine(97, 40, 2));
            seeLine(97, 40, plainLine(97, 40, 3));
            seeLine(97, 40, plainLine(97, 40, 4));
        });
        Sentences.says(of, ": numbers u0, u1, .. (whole, of any sign, not all 0) with u0 + t u1 + t t u2 + .. a"
            + " multiple of M (t its TABLE)", () -> {
                seeLine(500, 1, 1, -1);
                seeLine(500, 499, 1, 1);
                seeLine(2, 0, 0, 1);
                // 22 22 is 484, and 7 7 7 is 343
                seeLine(484, 22, 0, 0, 1);
                seeLine(343, 7, 0, 0, 0, 1);
            });
        Sentences.says(of, ": SHORT is the least sum of their squares", () -> {
            for (int m : new int[] {2, 3, 4, 25, 64, 210, 256, 499, 500}) {
                for (int t : new int[] {0, 1, 2, 3, m / 3, m / 2, m - 2, m - 1}) {
                    for (int neighbours = 2; neighbours <= 4; neighbours++) {
                        seeLine(m, t, plainLine(m, t, neighbours));
                    }
                }
            }
        });
        Sentences.says(of, "; its LINE that row with it that is first by u0, then u1 .. (lesser numbers first) whose"
            + " first number that isn't 0 is above 0.", () -> {
                seeLine(2, 1, 1, -1);
                seeLine(2, 1, 0, 1, -1);
                seeLine(2, 1, 0, 0, 1, -1);
                seeLine(500, 0, 0, 0, 0, 1);
                seeLine(500, 0, 0, 0, 1);
                seeLine(500, 499, 0, 1, 1);
                seeLine(10, 3, 1, 3);
                seeLine(10, 7, 1, -3);
                seeLine(8, 5, 2, -2);
                seeLine(5, 2, 1, 2);
                seeLine(5, 3, 1, -2);
                seeLine(13, 5, 2, -3);
            });
    }

    private static void all() {
        String of = "Promise 21";
        Sentences.says(of, "Whether all rests are in one round of a SINGLE mill (1, 0)", () -> {
            for (int m : new int[] {2, 3, 4, 6, 8, 9, 12, 16, 18, 30}) {
                for (int t = 0; t < m; t++) {
                    for (int more = 0; more < m; more++) {
                        Due.is(m + " " + t + " " + more, Made.single(m, t, more, 0).all(0), goesThroughAll(m, t, more));
                    }
                }
            }
            for (int t : new int[] {0, 1, 2, 3, 6, 11, 21, 41, 101, 251, 401, 499}) {
                for (int more : new int[] {0, 1, 2, 5, 7, 10, 499}) {
                    int due = goesThroughAll(500, t, more);
                    Due.is("500 " + t + " " + more, Made.single(500, t, more, 0).all(0), due);
                }
            }
            Due.is("whatever the plate", Made.single(499, 1, 498, 77).all(0), 1);
        });
        Sentences.says(of, "; NONE: no such SINGLE mill.", () -> {
            RoundMill x = withOthers();
            Due.is("a single one", x.all(0), 0);
            for (int m : new int[] {Made.LEAST, -1, 4, 5, 6, Made.MOST}) {
                Due.is("mill " + m, x.all(m), -1);
            }
            Due.is("a free one of size 1", x.all(1), -1);
            Due.is("a shift of size 1", x.all(2), -1);
            Due.is("a picture", x.all(3), -1);
        });
    }

    private static int goesThroughAll(int m, int t, int more) {
        boolean[] met = new boolean[m];
        int at = 0;
        int count = 0;
        while (!met[at]) {
            met[at] = true;
            count++;
            at = (at * t + more) % m;
        }
        return count == m && at == 0 ? 1 : 0;
    }

    private static void shortest() {
        String of = "Promise 22";
        Sentences.says(of, "SHORT of a SINGLE mill for so many neighbours (2 .. 4)", () -> {
            RoundMill x = Made.single(101, 10, 5, 3);
            Due.is("for 2", x.shortest(0, 2), 101);
            Due.is("for 3", x.shortest(0, 3), 2);
            Due.is("for 4", x.shortest(0, 4), 2);
            Due.is("for 2 again", x.shortest(0, 2), 101);
            Due.is("the most for 2", Made.single(500, 226, 0, 0).shortest(0, 2), PlainMills.lineOf(226, 500, 2)[2]);
        });
        Sentences.says(of, "; NONE: no such SINGLE mill", () -> {
            RoundMill x = withOthers();
            for (int m : new int[] {Made.LEAST, -1, 1, 2, 3, 4, 5, 6, Made.MOST}) {
                for (int neighbours = 2; neighbours <= 4; neighbours++) {
                    Due.is("mill " + m + " for " + neighbours, x.shortest(m, neighbours), -1);
                }
            }
        });
        Sentences.says(of, ", or number.", () -> {
            RoundMill x = withOthers();
            for (int neighbours : new int[] {Made.LEAST, -2, -1, 0, 1, 5, 6, Made.MOST}) {
                Due.is("for " + neighbours, x.shortest(0, neighbours), -1);
            }
            Due.is("for 2", x.shortest(0, 2), 5);
            Due.is("for 5 behind that", x.shortest(0, 5), -1);
        });
    }

    private static void line() {
        String of = "Promise 23";
        Sentences.says(of, "Number k of its LINE", () -> {
            seeLine(101, 10, 1, 10);
            seeLine(101, 10, 1, 0, 1);
            seeLine(101, 10, 0, 1, 0, 1);
        });
        Sentences.says(of, "; 501 if there is none such.", () -> {
            RoundMill x = withOthers();
            for (int neighbours = 2; neighbours <= 4; neighbours++) {
                for (int k : new int[] {Made.LEAST, -1, neighbours, neighbours + 1, 5, Made.MOST}) {
                    Due.is("number " + k + " of " + neighbours, x.line(0, neighbours, k), 501);
                }
            }
            for (int neighbours : new int[] {Made.LEAST, -2, -1, 0, 1, 5, 6, Made.MOST}) {
                for (int k = 0; k < 2; k++) {
                    Due.is("number " + k + " of " + neighbours, x.line(0, neighbours, k), 501);
                }
            }
            for (int m : new int[] {Made.LEAST, -1, 1, 2, 3, 4, 5, 6, Made.MOST}) {
                Due.is("mill " + m, x.line(m, 2, 0), 501);
            }
        });
    }
}
