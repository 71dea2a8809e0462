/** Promises 18 to 20: part, split, join. */
public final class PartsTest {
    private static final int[] OFF = {Integer.MIN_VALUE, -1, 4, 5, Integer.MAX_VALUE};

    private PartsTest() {
    }

    public static void main(String[] args) {
        for (int m = 2; m <= 500; m++) {
            everyMeasure(m);
        }
        wrong();
        worths();
        Due.end();
    }

    private static void everyMeasure(int m) {
        RoundMill x = new RoundMill();
        x.mill(0, m, 2);
        int count = x.look(0, 5);
        int product = 1;
        int past = 1;
        for (int k = 0; k < count; k++) {
            int prime = x.part(0, k, 0);
            int power = 1;
            for (int i = 0; i < x.part(0, k, 2); i++) {
                power *= prime;
            }
            Due.yes("prime of " + m, prime > past && isPrime(prime));
            Due.is("power in " + m, x.part(0, k, 1), power);
            Due.yes("often in " + m, power > 1 && m % power == 0 && m / power % prime != 0);
            past = prime;
            product *= power;
        }
        Due.is("all parts of " + m, product, m);
        Due.is("no more parts of " + m, x.part(0, count, 0), -1);
        int[] values = {0, 1, m - 1, m, -1, m / 2, Integer.MIN_VALUE, Integer.MAX_VALUE};
        for (int k = 0; k < count; k++) {
            int power = x.part(0, k, 1);
            for (int v : values) {
                x.plate(0, 1, v / 3);
                int old = Math.floorMod(v / 3, m);
                Due.is("split", x.split(0, k, 1), old % power);
                Due.yes("join", x.join(0, k, 1, v));
                int now = x.rest(0, 1);
                Due.yes("a rest of " + m, now >= 0 && now < m);
                Due.is("joined modulo the part", now % power, Math.floorMod(v, power));
                Due.is("joined modulo the others", now % (m / power), old % (m / power));
                Due.is("the other rest stays", x.rest(0, 0), 0);
            }
        }
    }

    private static boolean isPrime(int p) {
        for (int d = 2; d < p; d++) {
            if (p % d == 0) {
                return false;
            }
        }
        return p > 1;
    }

    private static void wrong() {
        RoundMill x = new RoundMill();
        x.mill(0, 210, 4);
        x.plate(0, 0, 100);
        for (int off : OFF) {
            Due.is("part " + off, x.part(0, off, 0), -1);
            Due.is("part what " + off, x.part(0, 0, off), -1);
            Due.is("split part " + off, x.split(0, off, 0), -1);
            Due.is("split rest " + off, x.split(0, 0, off), -1);
            Due.no("join part " + off, x.join(0, off, 0, 0));
            Due.no("join rest " + off, x.join(0, 0, off, 0));
        }
        x.mill(1, 4, 1);
        for (int k = 1; k < 4; k++) {
            Due.is("4 has one part", x.part(1, k, 1), -1);
            Due.is("4 has one part to split", x.split(1, k, 0), -1);
            Due.no("4 has one part to join", x.join(1, k, 0, 1));
            Due.is("one rest to split", x.split(1, 0, k), -1);
            Due.no("one rest to join", x.join(1, 0, k, 1));
        }
        Due.is("nothing happened", x.rest(0, 0), 100);
    }

    private static void worths() {
        RoundMill x = new RoundMill();
        x.mill(0, 360, 2);
        x.table(0, 0, 0, 7);
        x.table(0, 0, 1, 11);
        x.table(0, 1, 0, 13);
        x.table(0, 1, 1, 2);
        int worth = Math.floorMod(7 * 2 - 11 * 13, 360);
        Due.is("worth", x.look(0, 3), worth);
        Due.is("modulo 8", x.part(0, 0, 3), worth % 8);
        Due.is("modulo 9", x.part(0, 1, 3), worth % 9);
        Due.is("modulo 5", x.part(0, 2, 3), worth % 5);
        x.table(0, 0, 0, 8);
        Due.is("anew modulo 8", x.part(0, 0, 3), (worth + 2) % 8);
    }
}
