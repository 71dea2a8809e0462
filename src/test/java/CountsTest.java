import java.util.ArrayList;
import java.util.List;
import java.util.Random;

/**
 * Promises 16 and 17 for mills that are too great to go through, by another way than the program's: the plates that a
 * step leaves where they are solve B x = b modulo M, B being the step's table less 1 on the diagonal and b its MORE
 * taken from 0. The columns of B and of M times each place make a net in which every place counted has as many plates
 * as the greatest common divisor of the net's determinants; there are such plates if b makes this divisor no less.
 */
public final class CountsTest {
    private static final long LONGEST = 1_000_000_000_000L;
    private static final int[] MEASURES = {2, 4, 8, 64, 128, 256, 3, 9, 243, 5, 25, 125, 343, 361, 499, 491, 6, 12, 36,
        210, 330, 360, 420, 432, 480, 486, 490, 500};

    private final Random random;
    private final int measure;
    private final int size;
    private final int[][] step;
    private final RoundMill x;

    private CountsTest(long seed) {
        random = new Random(seed);
        measure = random.nextInt(3) == 0 ? 2 + random.nextInt(499) : MEASURES[random.nextInt(MEASURES.length)];
        size = 1 + random.nextInt(4);
        step = new int[size + 1][size + 1];
        step[size][size] = 1;
        x = new RoundMill();
        x.mill(0, measure, size);
        fill(random.nextInt(5));
    }

    public static void main(String[] args) {
        for (long seed = 0; seed < 600; seed++) {
            new CountsTest(seed).see();
        }
        Due.end();
    }

    /** Any numbers, nearly still ones, such as have much in common with the measure, few of them. */
    private void fill(int way) {
        for (int r = 0; r < size; r++) {
            for (int c = 0; c <= size; c++) {
                int any = random.nextInt(measure);
                int still = r == c ? 1 : 0;
                int v = way == 1 ? (any % 30 == 0 ? any : still) : way == 2 ? any / 6 * 6 + still
                    : way == 3 ? any / 5 * 10 : way == 4 ? any % 2 : any;
                step[r][c] = v % measure;
                Due.yes("told", c == size ? x.more(0, r, v) : x.table(0, r, c, v));
            }
            x.plate(0, r, random.nextInt(measure));
        }
    }

    private void see() {
        String of = "measure " + measure + " size " + size + ": ";
        long round = x.round(0);
        long[] turns = {0, 1, 2, 3, 4, 5, 6, 12, 60, 64, measure, round, 2 * round, 7 * round, random.nextInt(100_000),
            1L << 40, 1L << 62, Long.MAX_VALUE};
        for (long t : turns) {
            Due.is(of + "fixed by " + t, x.fixed(0, t), fixed(t));
        }
        long[] lengths = {1, 2, 3, 4, 6, 8, 12, 24, measure, measure - 1, round, 2 * round, round / 2, round / 3};
        for (long length : lengths) {
            if (length >= 1 && length <= LONGEST) {
                Due.is(of + "rounds of " + length, x.rounds(0, length), rounds(length));
            }
        }
    }

    private long rounds(long length) {
        List<Long> primes = new ArrayList<>();
        long left = length;
        for (long p = 2; p * p <= left; p++) {
            if (left % p == 0) {
                primes.add(p);
            }
            while (left % p == 0) {
                left /= p;
            }
        }
        if (left > 1) {
            primes.add(left);
        }
        return roundsWithout(length, primes, 0);
    }

    /** The plates back after the length, less those back after it divided by one of the primes from here on. */
    private long roundsWithout(long length, List<Long> primes, int from) {
        if (from == primes.size()) {
            return fixed(length);
        }
        return roundsWithout(length, primes, from + 1) - roundsWithout(length / primes.get(from), primes, from + 1);
    }

    private long fixed(long turns) {
        int[][] all = TurnsTest.power(step, turns, measure);
        long[][] columns = new long[2 * size + 1][size];
        for (int r = 0; r < size; r++) {
            for (int c = 0; c < size; c++) {
                columns[c][r] = all[r][c] - (r == c ? 1 : 0);
            }
            columns[size + r][r] = measure;
            columns[2 * size][r] = -all[r][size];
        }
        long net = divisor(columns, 2 * size, 0, new ArrayList<>());
        return divisor(columns, 2 * size + 1, 0, new ArrayList<>()) == net ? net : 0;
    }

    private long divisor(long[][] columns, int count, int from, List<long[]> chosen) {
        if (chosen.size() == size) {
            return Math.abs(determinant(chosen, 0, new boolean[size]));
        }
        long all = 0;
        for (int i = from; i < count; i++) {
            chosen.add(columns[i]);
            all = common(all, divisor(columns, count, i + 1, chosen));
            chosen.remove(chosen.size() - 1);
        }
        return all;
    }

    private static long determinant(List<long[]> columns, int at, boolean[] used) {
        if (at == columns.size()) {
            return 1;
        }
        long sum = 0;
        int sign = 1;
        for (int r = 0; r < used.length; r++) {
            if (!used[r]) {
                used[r] = true;
                long cell = columns.get(at)[r];
                sum += cell == 0 ? 0 : sign * cell * determinant(columns, at + 1, used);
                used[r] = false;
                sign = -sign;
            }
        }
        return sum;
    }

    private static long common(long a, long b) {
        return b == 0 ? a : common(b, a % b);
    }
}
