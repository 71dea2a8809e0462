import java.math.BigInteger;
import java.util.Random;

/** Promises 10 to 12: turn, leap, back. */
public final class TurnsTest {
    private static final long[] FAR = {0, 1, 2, 3, 31, 32, 33, 4999, 5000, 5001, 1L << 31, (1L << 32) + 1,
        999_999_999_999L, 1L << 62, Long.MAX_VALUE - 1, Long.MAX_VALUE};

    private TurnsTest() {
    }

    public static void main(String[] args) {
        edges();
        Random random = new Random(10);
        for (int run = 0; run < 300; run++) {
            far(random);
        }
        pictureStays();
        Due.end();
    }

    private static void edges() {
        RoundMill x = new RoundMill();
        x.mill(1, 500, 1);
        x.table(0, 0, 0, 1);
        x.more(0, 0, 1);
        int[] wrong = {-1, 5001, Integer.MIN_VALUE, Integer.MAX_VALUE};
        for (int w : wrong) {
            Due.no("turn " + w, x.turn(0, w));
        }
        Due.no("leap -1", x.leap(0, -1));
        Due.no("leap least", x.leap(0, Long.MIN_VALUE));
        Due.no("back -1", x.back(0, -1));
        Due.no("back least", x.back(0, Long.MIN_VALUE));
        Due.is("nothing happened", x.rest(0, 0), 0);
        Due.yes("turn 0", x.turn(0, 0));
        Due.is("still", x.rest(0, 0), 0);
        Due.yes("turn 4999", x.turn(0, 4999));
        Due.is("4999", x.rest(0, 0), 499);
        Due.yes("turn 5000", x.turn(0, 5000));
        Due.is("9999", x.rest(0, 0), 499);
        Due.yes("leap 5001", x.leap(0, 5001));
        Due.is("15000", x.rest(0, 0), 0);
        Due.yes("leap most", x.leap(0, Long.MAX_VALUE));
        Due.is("most", x.rest(0, 0), (int) (Long.MAX_VALUE % 500));
        Due.yes("back most", x.back(0, Long.MAX_VALUE));
        Due.is("most back", x.rest(0, 0), 0);
        x.table(0, 0, 0, 5);
        Due.no("no way back", x.back(0, 1));
        Due.no("not even of 0", x.back(0, 0));
        Due.yes("but on", x.leap(0, 1));
        Due.is("1", x.rest(0, 0), 1);
        x.table(0, 0, 0, 7);
        Due.yes("a way back again", x.back(0, 1));
        Due.is("0", x.rest(0, 0), 0);
    }

    private static void far(Random random) {
        RoundMill x = new RoundMill();
        int size = 1 + random.nextInt(4);
        int measure = random.nextInt(3) == 0 ? 2 + random.nextInt(20) : 2 + random.nextInt(499);
        x.mill(0, measure, size);
        int[][] step = new int[size + 1][size + 1];
        int[] plate = new int[size + 1];
        step[size][size] = 1;
        plate[size] = 1;
        for (int r = 0; r < size; r++) {
            for (int c = 0; c <= size; c++) {
                step[r][c] = random.nextInt(measure);
                boolean done = c == size ? x.more(0, r, step[r][c]) : x.table(0, r, c, step[r][c]);
                Due.yes("told", done);
            }
            plate[r] = random.nextInt(measure);
            x.plate(0, r, plate[r]);
        }
        for (long turns : FAR) {
            int[] to = times(power(step, turns, measure), plate, measure);
            Due.yes("leap " + turns, x.leap(0, turns));
            seePlate(x, to, "leap " + turns);
            boolean back = BigInteger.valueOf(x.look(0, 3)).gcd(BigInteger.valueOf(measure)).equals(BigInteger.ONE);
            Due.is("back " + turns, x.back(0, turns), back);
            seePlate(x, back ? plate : to, "back " + turns);
            for (int r = 0; r < size; r++) {
                x.plate(0, r, plate[r]);
            }
            if (turns <= 5000) {
                Due.yes("turn " + turns, x.turn(0, (int) turns));
                seePlate(x, to, "turn " + turns);
                plate = to;
            }
        }
    }

    private static void seePlate(RoundMill x, int[] due, String call) {
        for (int r = 0; r < due.length - 1; r++) {
            Due.is(call + " rest " + r, x.rest(0, r), due[r]);
        }
    }

    private static int[] times(int[][] step, int[] row, int measure) {
        int[] to = new int[row.length];
        for (int r = 0; r < row.length; r++) {
            for (int c = 0; c < row.length; c++) {
                to[r] = (to[r] + step[r][c] * row[c]) % measure;
            }
        }
        return to;
    }

    /** The other way about than the program: from the number's highest bit down. */
    static int[][] power(int[][] step, long turns, int measure) {
        int[][] to = new int[step.length][step.length];
        for (int i = 0; i < step.length; i++) {
            to[i][i] = 1;
        }
        for (int bit = 62; bit >= 0; bit--) {
            to = product(to, to, measure);
            if ((turns >> bit & 1) == 1) {
                to = product(step, to, measure);
            }
        }
        return to;
    }

    private static int[][] product(int[][] a, int[][] b, int measure) {
        int[][] to = new int[a.length][a.length];
        for (int r = 0; r < a.length; r++) {
            for (int c = 0; c < a.length; c++) {
                for (int i = 0; i < a.length; i++) {
                    to[r][c] = (to[r][c] + a[r][i] * b[i][c]) % measure;
                }
            }
        }
        return to;
    }

    private static void pictureStays() {
        RoundMill x = new RoundMill();
        x.mill(3, 5, 2);
        x.more(0, 0, 1);
        x.paint(0, 0, 0, 9);
        Due.no("no way back in a picture", x.back(0, 1));
        x.table(0, 0, 0, 1);
        x.table(0, 1, 1, 1);
        Due.yes("turn in a picture", x.turn(0, 1));
        Due.yes("leap in a picture", x.leap(0, 1));
        Due.is("its plate goes", x.rest(0, 0), 2);
        Due.yes("back in a picture", x.back(0, 1));
        Due.is("its plate comes", x.rest(0, 0), 1);
        Due.is("its cells stay", x.picture(0, 0, 0), 9);
        Due.yes("moved", x.move(0, 1));
        Due.is("its plate stays", x.rest(0, 0), 1);
    }
}
