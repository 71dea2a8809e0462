/** Boundary cases of term 2 and of promises 13 to 17 and 33: tail, round, order, fixed, rounds, check. */
final class BoundsOfRounds {
    private static final long LONGEST = 1_000_000_000_000L;
    private static final int[] NO_SUCH = {Made.LEAST, -1, 1, 5, 6, Made.MOST};
    private static final int[][] STILL = {{1, 0, 0, 0, 0}, {0, 1, 0, 0, 0}, {0, 0, 1, 0, 0}, {0, 0, 0, 1, 0}};

    private BoundsOfRounds() {
    }

    static void test() {
        terms();
        tail();
        round();
        order();
        fixed();
        rounds();
        check();
    }

    private static void terms() {
        String of = "Term 2";
        Sentences.says(of, "TAIL, ROUND", () -> {
            RoundMill x = Made.single(8, 6, 1, 0);
            // 0, 1, 7, 3, 3 ..
            Due.is("tail", x.tail(0), 3);
            Due.is("round", x.round(0), 1);
            Due.is("the plate stays where it is", x.rest(0, 0), 0);
        });
        Sentences.says(of, ", ORDER (the least number of turns that brings all PLATES back, if WORTH has no divisor"
            + " with M)", () -> {
                Due.is("of all, not of the plate", Made.single(7, 3, 0, 0).order(0), 6);
                Due.is("no fewer than 1", Made.single(7, 1, 0, 0).order(0), 1);
                Due.is("by MORE", Made.single(8, 1, 4, 0).order(0), 2);
                Due.is("by a part each", Made.single(500, 7, 0, 0).order(0), 20);
                RoundMill wheels = Made.house(0, 499, new int[][] {{0, 1, 0, 0, 0}, {1, 0, 0, 0, 0}, {0, 0, 1, 0, 1},
                    {0, 0, 0, 1, 0}});
                Due.is("of 2 and of 499", wheels.order(0), 2 * 499);
            });
        Sentences.says(of, ", FIXED (the number of PLATES that are the same behind so many turns)", () -> {
            Due.is("3 x + 2 is x in one rest of 7", Made.single(7, 3, 2, 0).fixed(0, 1), 1);
            Due.is("3 x is x in 0 and 4 of 8", Made.single(8, 3, 0, 0).fixed(0, 1), 2);
            Due.is("3 x + 1 is x nowhere in 8", Made.single(8, 3, 1, 0).fixed(0, 1), 0);
            Due.is("a wheel of four by 2", Made.wheel(9, 4).fixed(0, 2), 81);
        });
        Sentences.says(of, "are of all M to the n PLATES, not of what was gone through.", () -> {
            RoundMill x = Made.single(7, 3, 0, 1);
            x.turn(0, 2);
            Due.is("round whatever was gone", x.round(0), 6);
            Due.is("order whatever was gone", x.order(0), 6);
            Due.is("fixed whatever was gone", x.fixed(0, 6), 7);
            x.plate(0, 0, 0);
            Due.is("round of another plate", x.round(0), 1);
            Due.is("order of the same mill", x.order(0), 6);
            Due.is("all 500^4", Made.house(0, 500, STILL).fixed(0, 1), 62_500_000_000L);
            RoundMill tail = Made.single(256, 2, 0, 1);
            Due.is("tail ahead", tail.tail(0), 8);
            tail.turn(0, 3);
            Due.is("tail from here on", tail.tail(0), 5);
        });
    }

    private static void tail() {
        String of = "Promise 13";
        Sentences.says(of, "TAIL of the PLATE", () -> {
            Due.is("in a round", Made.single(7, 3, 2, 1).tail(0), 0);
            Due.is("of one that stays", Made.single(7, 3, 2, 6).tail(0), 0);
            Due.is("to the only one", Made.single(7, 0, 2, 6).tail(0), 1);
            Due.is("at the only one", Made.single(7, 0, 2, 2).tail(0), 0);
            for (int often = 1; often <= 8; often++) {
                RoundMill x = Made.single(1 << often, 2, 1, 0);
                Due.is("modulo 2^" + often, x.tail(0), often);
                x.turn(0, often);
                Due.is("behind it", x.tail(0), 0);
            }
            RoundMill longest = new RoundMill();
            longest.mill(2, 256, 4);
            longest.table(0, 3, 0, 2);
            longest.plate(0, 3, 1);
            for (int ahead = 32; ahead >= 0; ahead--) {
                Due.is("the longest, so far ahead", longest.tail(0), ahead);
                longest.turn(0, 1);
            }
            Due.is("in its round now", longest.tail(0), 0);
            RoundMill both = Made.house(0, 500, new int[][] {{10, 0, 0}, {0, 3, 1}});
            Made.plate(both, 1, 1);
            Due.is("of the part that needs most turns", both.tail(0), 3);
        });
        Sentences.says(of, "; NONE if there is no such mill.", () -> {
            RoundMill x = Made.single(7, 3, 2, 1);
            for (int m : NO_SUCH) {
                Due.is("mill " + m, x.tail(m), -1);
            }
        });
    }

    private static void round() {
        String of = "Promise 14";
        Sentences.says(of, "ROUND of the PLATE (behind its TAIL)", () -> {
            Due.is("1 at least", Made.single(7, 1, 0, 3).round(0), 1);
            Due.is("all of 500", Made.single(500, 1, 1, 3).round(0), 500);
            RoundMill x = Made.single(12, 2, 0, 1);
            // 1, 2, 4, 8, 4 ..
            Due.is("behind the tail", x.round(0), 2);
            Due.is("the tail", x.tail(0), 2);
            x.turn(0, 1);
            Due.is("in the tail", x.round(0), 2);
            x.turn(0, 1);
            Due.is("in the round", x.round(0), 2);
            x.plate(0, 0, 3);
            Due.is("3, 6, 0, 0 ..", x.round(0), 1);
            RoundMill far = new RoundMill();
            far.mill(2, 499, 4);
            far.table(0, 3, 1, 1);
            long most = 0;
            for (int a = 1; a < 60; a++) {
                far.table(0, 3, 0, a);
                far.plate(0, 0, 1);
                most = Math.max(most, far.round(0));
            }
            Due.is("the longest, above any int", most, Made.power(499, 4) - 1);
        });
        Sentences.says(of, "; NONE likewise.", () -> {
            RoundMill x = Made.single(7, 3, 2, 1);
            for (int m : NO_SUCH) {
                Due.is("mill " + m, x.round(m), -1);
            }
            Due.is("WORTH has a divisor with M: it is there all the same", Made.single(8, 2, 0, 1).round(0), 1);
        });
    }

    private static void order() {
        String of = "Promise 15";
        Sentences.says(of, "ORDER", () -> {
            Due.is("of still", Made.house(0, 500, STILL).order(0), 1);
            Due.is("modulo 2", Made.single(2, 1, 1, 0).order(0), 2);
            Due.is("modulo 499", Made.single(499, 7, 0, 0).order(0), 498);
            RoundMill x = new RoundMill();
            x.mill(2, 499, 4);
            x.table(0, 3, 1, 1);
            long most = 0;
            for (int a = 1; a < 60; a++) {
                x.table(0, 3, 0, a);
                most = Math.max(most, x.order(0));
            }
            Due.is("the longest, above any int", most, Made.power(499, 4) - 1);
        });
        Sentences.says(of, "; NONE likewise", () -> {
            RoundMill x = Made.single(7, 3, 2, 1);
            for (int m : NO_SUCH) {
                Due.is("mill " + m, x.order(m), -1);
            }
        });
        Sentences.says(of, ", or if WORTH has a divisor with M.", () -> {
            int[][] shared = {{2, 0}, {4, 2}, {6, 2}, {6, 3}, {9, 3}, {256, 2}, {499, 0}, {500, 5}, {500, 2}, {500, 0}};
            for (int[] s : shared) {
                Due.is(s[1] + " in " + s[0], Made.single(s[0], s[1], 1, 1).order(0), -1);
            }
            int[][] nearlyStill = {{1, 0, 0, 0, 0}, {0, 1, 0, 0, 0}, {0, 0, 1, 0, 0}, {0, 0, 0, 5, 0}};
            Due.is("of four rows", Made.house(0, 500, nearlyStill).order(0), -1);
            RoundMill x = Made.single(6, 2, 0, 0);
            Due.is("a divisor", x.order(0), -1);
            x.table(0, 0, 0, 5);
            Due.is("none", x.order(0), 2);
            x.table(0, 0, 0, 3);
            Due.is("a divisor again", x.order(0), -1);
        });
    }

    private static void fixed() {
        String of = "Promise 16";
        Sentences.says(of, "FIXED by so many TURNS, 0 and more", () -> {
            for (int m : new int[] {2, 256, 499, 500}) {
                for (int n = 1; n <= 4; n++) {
                    RoundMill x = new RoundMill();
                    x.mill(0, m, n);
                    Due.is("all by 0 turns, " + n + " modulo " + m, x.fixed(0, 0), Made.power(m, n));
                    Due.is("one by 1 turn, " + n + " modulo " + m, x.fixed(0, 1), 1);
                    Due.is("one by the most turns, " + n + " modulo " + m, x.fixed(0, Long.MAX_VALUE), 1);
                }
            }
            RoundMill count = Made.single(500, 1, 1, 0);
            Due.is("none by 1", count.fixed(0, 1), 0);
            Due.is("none by 499", count.fixed(0, 499), 0);
            Due.is("all by 500", count.fixed(0, 500), 500);
            Due.is("none by 501", count.fixed(0, 501), 0);
            Due.is("none by the most", count.fixed(0, Long.MAX_VALUE), 0);
            long far = Long.MAX_VALUE - Long.MAX_VALUE % 500;
            Due.is("all by the most that 500 divides", count.fixed(0, far), 500);
            Due.is("WORTH has a divisor with M: counted all the same", Made.single(12, 2, 0, 0).fixed(0, 2), 3);
        });
        Sentences.says(of, "; NONE likewise.", () -> {
            RoundMill x = Made.single(7, 3, 2, 1);
            for (int m : NO_SUCH) {
                Due.is("mill " + m, x.fixed(m, 1), -1);
                Due.is("mill " + m + " by 0", x.fixed(m, 0), -1);
            }
            for (long turns : new long[] {Long.MIN_VALUE, Long.MIN_VALUE + 1, Made.LEAST, -6, -1}) {
                Due.is("turns " + turns, x.fixed(0, turns), -1);
            }
        });
    }

    private static void rounds() {
        String of = "Promise 17";
        Sentences.says(of, "How many PLATES are in a round of just this length (1 and more)", () -> {
            RoundMill x = Made.single(12, 2, 0, 1);
            // 0 stays, 4 and 8 go round, all the others are ahead of a round
            Due.is("of 1", x.rounds(0, 1), 1);
            Due.is("of 2", x.rounds(0, 2), 2);
            Due.is("of 3", x.rounds(0, 3), 0);
            Due.is("of 4, though they are back then too", x.rounds(0, 4), 0);
            Due.is("still ones", Made.house(0, 500, STILL).rounds(0, 1), 62_500_000_000L);
            Due.is("none but still ones", Made.house(0, 500, STILL).rounds(0, 2), 0);
            RoundMill wheel = Made.wheel(5, 4);
            Due.is("a wheel's of 1", wheel.rounds(0, 1), 5);
            Due.is("a wheel's of 2", wheel.rounds(0, 2), 20);
            Due.is("a wheel's of 4", wheel.rounds(0, 4), 600);
            Due.is("a wheel's of 8", wheel.rounds(0, 8), 0);
            RoundMill count = Made.single(500, 1, 1, 0);
            Due.is("of 500", count.rounds(0, 500), 500);
            Due.is("of 499", count.rounds(0, 499), 0);
            Due.is("of 1000", count.rounds(0, 1000), 0);
        });
        Sentences.says(of, "; NONE likewise", () -> {
            RoundMill x = Made.single(7, 3, 2, 1);
            for (int m : NO_SUCH) {
                Due.is("mill " + m, x.rounds(m, 1), -1);
            }
            for (long length : new long[] {Long.MIN_VALUE, Made.LEAST, -6, -1, 0}) {
                Due.is("length " + length, x.rounds(0, length), -1);
            }
        });
        Sentences.says(of, ", or if the length is above 10^12.", () -> {
            RoundMill x = Made.single(7, 3, 2, 1);
            Due.is("10^12 - 1", x.rounds(0, LONGEST - 1), 0);
            Due.is("10^12", x.rounds(0, LONGEST), 0);
            Due.is("10^12 + 1", x.rounds(0, LONGEST + 1), -1);
            Due.is("the most", x.rounds(0, Long.MAX_VALUE), -1);
        });
    }

    private static void check() {
        String of = "Promise 33";
        Sentences.says(of, "Whether the PLATE's ROUND is just n, by n's primes alone: 1: behind its TAIL the PLATE"
            + " comes back after n TURNS, and for no prime of n after n divided by it", () -> {
                Due.is("a round of 1", Made.single(7, 3, 2, 6).check(0, 1), 1);
                Due.is("a round of 6", Made.single(7, 3, 2, 1).check(0, 6), 1);
                Due.is("a round of 500", Made.single(500, 1, 1, 0).check(0, 500), 1);
                Due.is("behind a tail", Made.single(12, 2, 0, 1).check(0, 2), 1);
                Due.is("behind the longest tail", Made.single(256, 2, 1, 0).check(0, 1), 1);
                RoundMill far = new RoundMill();
                far.mill(2, 499, 4);
                far.table(0, 3, 1, 1);
                far.plate(0, 0, 1);
                int found = 0;
                for (int a = 1; a < 60; a++) {
                    far.table(0, 3, 0, a);
                    found += far.check(0, Made.power(499, 4) - 1);
                }
                Due.yes("the longest rounds, above any int", found > 0 && found < 59);
                Due.is("of the plate, not of the mill", Made.single(7, 3, 0, 0).check(0, 1), 1);
            });
        Sentences.says(of, "; 0: not", () -> {
            RoundMill x = Made.single(7, 3, 2, 1);
            for (long n : new long[] {1, 2, 3, 4, 5, 7, 12, 18, 30, 36, 216, 600_000_000_000L, LONGEST - 1}) {
                Due.is("a round of 6 is none of " + n, x.check(0, n), 0);
            }
            Due.is("a round of 1 is none of 2", Made.single(7, 3, 2, 6).check(0, 2), 0);
            RoundMill tail = Made.single(12, 2, 0, 1);
            Due.is("behind a tail, twice", tail.check(0, 4), 0);
            Due.is("behind a tail, half", tail.check(0, 1), 0);
        });
        Sentences.says(of, "; NONE: no such mill", () -> {
            RoundMill x = Made.single(7, 3, 2, 1);
            for (int m : NO_SUCH) {
                Due.is("mill " + m, x.check(m, 1), -1);
                Due.is("mill " + m + " by 6", x.check(m, 6), -1);
            }
        });
        Sentences.says(of, ", or n is below 1, above 10^12.", () -> {
            RoundMill x = Made.single(7, 3, 2, 6);
            for (long n : new long[] {Long.MIN_VALUE, Made.LEAST, -1, 0, LONGEST + 1, Long.MAX_VALUE}) {
                Due.is("check " + n, x.check(0, n), -1);
            }
            Due.is("check 1", x.check(0, 1), 1);
            Due.is("check 10^12", x.check(0, LONGEST), 0);
        });
    }
}
