import java.util.ArrayList;
import java.util.List;
import java.util.Random;
import java.util.Set;

/** Promises 13 to 17 and 33: tail, round, order, fixed, rounds, check. */
public final class RoundsTest {
    private static final long LONGEST = 1_000_000_000_000L;
    /** Mills that can be gone through: measure, size. */
    private static final int[][] SHAPES = {{2, 4}, {3, 4}, {4, 4}, {5, 4}, {6, 4}, {7, 4}, {8, 4}, {9, 4}, {12, 4},
        {15, 4}, {16, 4}, {5, 3}, {10, 3}, {25, 3}, {27, 3}, {30, 3}, {32, 3}, {36, 3}, {49, 3}, {101, 2}, {125, 2},
        {128, 2}, {210, 2}, {243, 2}, {256, 2}, {343, 2}, {360, 2}, {420, 2}, {499, 2}, {500, 2}, {2, 1}, {256, 1},
        {420, 1}, {486, 1}, {499, 1}, {500, 1}};

    private final Random random = new Random(13);
    private RoundMill x;
    private PlainMills plain;
    private int measure;
    private int size;

    private RoundsTest() {
    }

    public static void main(String[] args) {
        RoundsTest test = new RoundsTest();
        test.edges();
        test.longestTails();
        for (int[] shape : SHAPES) {
            for (int way = 0; way < 5; way++) {
                test.goThrough(shape[0], shape[1], way);
            }
        }
        for (int run = 0; run < 400; run++) {
            test.big(test.someMeasure(), 1 + test.random.nextInt(4));
        }
        test.everyPart();
        test.known();
        Due.end();
    }

    private void edges() {
        x = new RoundMill();
        x.mill(1, 7, 1);
        x.table(0, 0, 0, 3);
        x.plate(0, 0, 1);
        Due.is("fixed -1", x.fixed(0, -1), -1);
        Due.is("fixed least", x.fixed(0, Long.MIN_VALUE), -1);
        Due.is("fixed 0", x.fixed(0, 0), 7);
        Due.is("fixed most", x.fixed(0, Long.MAX_VALUE), 1);
        Due.is("fixed 6 * 10^17", x.fixed(0, 600_000_000_000_000_000L), 7);
        Due.is("rounds 0", x.rounds(0, 0), -1);
        Due.is("rounds -1", x.rounds(0, -1), -1);
        Due.is("rounds least", x.rounds(0, Long.MIN_VALUE), -1);
        Due.is("rounds 10^12", x.rounds(0, LONGEST), 0);
        Due.is("rounds above", x.rounds(0, LONGEST + 1), -1);
        Due.is("rounds most", x.rounds(0, Long.MAX_VALUE), -1);
        Due.is("rounds 12", x.rounds(0, 12), 0);
        Due.is("check 0", x.check(0, 0), -1);
        Due.is("check -6", x.check(0, -6), -1);
        Due.is("check 10^12", x.check(0, LONGEST), 0);
        Due.is("check above", x.check(0, LONGEST + 1), -1);
        Due.is("check 6", x.check(0, 6), 1);
        for (int n : new int[] {1, 2, 3, 4, 5, 7, 12, 18, 36}) {
            Due.is("check " + n, x.check(0, n), 0);
        }
        Due.is("no order at first", new RoundMill().order(0), -1);
        x.mill(0, 500, 4);
        Due.is("no order of 0s", x.order(1), -1);
        Due.is("tail of 0s", x.tail(1), 0);
        Due.is("round of 0s", x.round(1), 1);
        Due.is("all are fixed", x.fixed(1, 0), 62_500_000_000L);
        Due.is("one is fixed", x.fixed(1, 1), 1);
        x.plate(1, 3, 1);
        Due.is("tail to 0s", x.tail(1), 1);
        Due.is("the plate stays", x.rest(1, 3), 1);
        Due.is("check behind the tail", x.check(1, 1), 1);
        for (int i = 0; i < 4; i++) {
            x.table(1, i, i, 1);
        }
        Due.is("order of still", x.order(1), 1);
        Due.is("rounds of still", x.rounds(1, 1), 62_500_000_000L);
        x.more(1, 0, 1);
        Due.is("found anew", x.order(1), 500);
        Due.is("round anew", x.round(1), 500);
        Due.is("tail anew", x.tail(1), 0);
        Due.is("rounds anew", x.rounds(1, 500), 62_500_000_000L);
        Due.is("fixed anew", x.fixed(1, 499), 0);
        Due.is("fixed by 500", x.fixed(1, 500), 62_500_000_000L);
    }

    /** Modulo 256 a row of four goes 32 turns ahead of its round. */
    private void longestTails() {
        for (int often = 1, power = 2; power <= 256; often++, power *= 2) {
            for (int n = 1; n <= 4; n++) {
                x = new RoundMill();
                x.mill(2, power, n);
                x.table(0, n - 1, 0, 2);
                x.plate(0, n - 1, 1);
                Due.is("tail of " + n + " modulo " + power, x.tail(0), n * often);
                Due.is("round of " + n + " modulo " + power, x.round(0), 1);
                x.plate(0, n - 1, 0);
                x.more(0, n - 1, 1);
                Due.is("tail with more of " + n + " modulo " + power, x.tail(0), n * often);
                Due.is("fixed of " + n + " modulo " + power, x.fixed(0, 77), 1);
            }
        }
    }

    private void tell(int way) {
        x = new RoundMill();
        plain = new PlainMills();
        int kind = way == 4 ? 2 : 0;
        x.mill(kind, measure, size);
        plain.mill(kind, measure, size);
        for (int r = 0; r < size; r++) {
            for (int c = 0; c < size; c++) {
                put(r, c, entry(way, r, c));
            }
            int more = way == 0 ? 0 : random.nextInt(measure);
            x.more(0, r, more);
            plain.more(0, r, more);
        }
    }

    /** Any numbers, or such as have much in common with the measure, or nearly still ones. */
    private int entry(int way, int row, int column) {
        int any = random.nextInt(measure);
        if (way == 2) {
            return any / (1 + random.nextInt(4)) * 2 * 3 * 5;
        }
        if (way == 3) {
            return row == column ? 1 : column > row ? any : 0;
        }
        return any;
    }

    private void put(int row, int column, int v) {
        x.table(0, row, column, v);
        plain.table(0, row, column, v);
    }

    private void goThrough(int ofMeasure, int ofSize, int way) {
        measure = ofMeasure;
        size = ofSize;
        tell(way);
        String of = "measure " + measure + " size " + size + " way " + way + ": ";
        Due.is(of + "order", x.order(0), plain.order(0));
        for (int i = 0; i < 12; i++) {
            for (int r = 0; r < size; r++) {
                int v = i == 0 ? 0 : random.nextInt(measure);
                x.plate(0, r, v);
                plain.plate(0, r, v);
            }
            long round = plain.round(0);
            Due.is(of + "tail", x.tail(0), plain.tail(0));
            Due.is(of + "round", x.round(0), round);
            Due.is(of + "rounds of " + round, x.rounds(0, round), plain.rounds(0, round));
            Due.is(of + "fixed by " + round, x.fixed(0, round), plain.fixed(0, round));
            Due.is(of + "fixed far", x.fixed(0, round * 1_000_003), plain.fixed(0, round * 1_000_003));
            Due.is(of + "check", x.check(0, round), 1);
            Due.is(of + "check twice", x.check(0, round * 2), 0);
            Due.is(of + "check third", x.check(0, round * 3), 0);
        }
        for (int turns = 0; turns <= 30; turns++) {
            Due.is(of + "fixed by " + turns, x.fixed(0, turns), plain.fixed(0, turns));
            if (turns > 0) {
                Due.is(of + "rounds of " + turns, x.rounds(0, turns), plain.rounds(0, turns));
            }
        }
    }

    private int someMeasure() {
        return random.nextInt(4) == 0 ? 499 - random.nextInt(10) : 2 + random.nextInt(499);
    }

    /** Each prime's powers on their own: what primes a round can have depends on these. */
    private void everyPart() {
        for (int prime = 2; prime < 500; prime++) {
            boolean isPrime = true;
            for (int d = 2; d < prime; d++) {
                isPrime &= prime % d != 0;
            }
            for (int power = prime; isPrime && power <= 500; power *= prime) {
                for (int ofSize = 1; ofSize <= 4; ofSize++) {
                    big(power, ofSize);
                    big(power, ofSize);
                }
            }
        }
    }

    /** Mills that can't be gone through: that the answers are right is seen by leaps. */
    private void big(int ofMeasure, int ofSize) {
        measure = ofMeasure;
        size = ofSize;
        tell(random.nextInt(5));
        for (int r = 0; r < size; r++) {
            x.plate(0, r, random.nextInt(measure));
        }
        String of = "big " + measure + " " + size + ": ";
        int[] start = rests();
        int tail = x.tail(0);
        long round = x.round(0);
        Due.is(of + "check", x.check(0, round), 1);
        Due.yes(of + "comes back", comesBack(start, tail, round));
        if (tail > 0) {
            Due.no(of + "no sooner in its round", comesBack(start, tail - 1, round));
        }
        long left = round;
        for (int p = 2; (long) p * p <= left; p++) {
            if (left % p == 0) {
                Due.no(of + "no sooner back", comesBack(start, tail, round / p));
                Due.is(of + "check", x.check(0, round / p), 0);
            }
            while (left % p == 0) {
                left /= p;
            }
        }
        if (left > 1) {
            Due.no(of + "no sooner back", comesBack(start, tail, round / left));
        }
        seeOrder(of, round);
        seeCounts(of, round);
    }

    private int[] rests() {
        int[] rests = new int[size];
        for (int r = 0; r < size; r++) {
            rests[r] = x.rest(0, r);
        }
        return rests;
    }

    private boolean comesBack(int[] start, int tail, long round) {
        set(start);
        x.leap(0, tail);
        int[] at = rests();
        x.leap(0, round);
        boolean same = java.util.Arrays.equals(at, rests());
        set(start);
        return same;
    }

    private void set(int[] start) {
        for (int r = 0; r < size; r++) {
            x.plate(0, r, start[r]);
        }
    }

    /** All plates come back if the plate of 0s does, and those of one 1: the order is the least for these. */
    private void seeOrder(String of, long round) {
        long order = x.order(0);
        Due.is(of + "order", order == -1, x.look(0, 4) == 0);
        if (order == -1) {
            return;
        }
        Due.is(of + "round in order", order % round, 0);
        long all = 1;
        for (int i = -1; i < size; i++) {
            for (int r = 0; r < size; r++) {
                x.plate(0, r, r == i ? 1 : 0);
            }
            Due.is(of + "no tail", x.tail(0), 0);
            long its = x.round(0);
            long a = all;
            for (long b = its; b != 0;) {
                long rest = a % b;
                a = b;
                b = rest;
            }
            all = all / a * its;
        }
        Due.is(of + "order", order, all);
        long plates = 1;
        for (int i = 0; i < size; i++) {
            plates *= measure;
        }
        Due.is(of + "fixed by the order", x.fixed(0, order), plates);
    }

    private void seeCounts(String of, long round) {
        List<Long> divisors = new ArrayList<>();
        for (long d = 1; d * d <= round; d++) {
            if (round % d == 0) {
                divisors.add(d);
                divisors.add(round / d);
            }
        }
        if (divisors.size() < 300) {
            long sum = 0;
            for (long d : Set.copyOf(divisors)) {
                sum += x.rounds(0, d);
            }
            Due.is(of + "the rounds' plates are the fixed ones", sum, x.fixed(0, round));
        }
        Due.is(of + "whole rounds", x.rounds(0, round) % round, 0);
        Due.yes(of + "its own round is there", x.rounds(0, round) >= round);
    }

    /** Of the rules modulo a prime there are some that bring each row but 0s into one round, and none does more. */
    private void known() {
        x = new RoundMill();
        x.mill(2, 499, 2);
        long most = 0;
        for (int a = 1; a < 120; a++) {
            x.table(0, 1, 0, a);
            x.table(0, 1, 1, 1);
            x.plate(0, 0, 1);
            most = Math.max(most, x.round(0));
        }
        Due.is("a row of two goes through all", most, 499L * 499 - 1);
        x = new RoundMill();
        x.mill(2, 499, 4);
        most = 0;
        for (int a = 1; a < 60; a++) {
            x.table(0, 3, 0, a);
            x.table(0, 3, 1, 1);
            most = Math.max(most, x.order(0));
        }
        Due.is("a row of four goes through all", most, 499L * 499 * 499 * 499 - 1);
    }
}
