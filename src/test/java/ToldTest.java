import java.util.Random;

/** Promises 28 to 32: begin, tell, least, shown, rule. */
public final class ToldTest {
    private ToldTest() {
    }

    public static void main(String[] args) {
        begins();
        full();
        longest();
        for (int ahead = 0; ahead < 64; ahead++) {
            zerosAhead(ahead);
        }
        for (int count = 0; count <= 9; count++) {
            for (int told = 0; told < 1 << count; told++) {
                everyRule(2, count, told);
            }
        }
        for (int count = 0, all = 1; count <= 6; count++, all *= 3) {
            for (int told = 0; told < all; told++) {
                everyRule(3, count, told);
            }
        }
        Random random = new Random(28);
        for (int run = 0; run < 150; run++) {
            against(random);
        }
        for (int run = 0; run < 100; run++) {
            toldByMill(random);
        }
        Due.end();
    }

    private static void begins() {
        int primes = 0;
        RoundMill x = new RoundMill();
        for (int p = -5; p <= 1000; p++) {
            x = new RoundMill();
            x.tell(1);
            boolean prime = p > 1 && p < 500;
            for (int d = 2; d < p; d++) {
                prime &= p % d != 0;
            }
            primes += prime ? 1 : 0;
            if (!prime) {
                Due.no("begin " + p, x.begin(p));
                Due.is("nothing happens", x.least(), 1);
                continue;
            }
            Due.yes("begin " + p, x.begin(p));
            Due.is("nothing told", x.least(), 0);
            Due.is("nothing told is shown", x.shown(), 1);
            Due.is("-1 is told", x.tell(-1), 1);
            Due.is(p + " + 1 is told", x.tell(p + 1), 2);
            Due.is("its rule", x.rule(1), p - 1);
        }
        Due.is("primes", primes, 95);
        for (int p : new int[] {Integer.MIN_VALUE, Integer.MAX_VALUE, 65537, 1 << 16, 46341 * 2}) {
            Due.no("begin " + p, x.begin(p));
        }
        for (int v : new int[] {Integer.MIN_VALUE, Integer.MAX_VALUE}) {
            x.begin(499);
            x.tell(1);
            x.tell(v);
            Due.is("rest of " + v, x.rule(1), Math.floorMod(v, 499));
        }
    }

    private static void full() {
        RoundMill x = new RoundMill();
        x.begin(7);
        for (int i = 1; i <= 64; i++) {
            Due.is("told", x.tell(0), i);
            Due.is("nothing but 0s", x.least(), 0);
            Due.is("shown", x.shown(), 1);
            Due.is("no number", x.rule(1), -1);
        }
        Due.is("a 65th", x.tell(1), -1);
        Due.is("nothing happens", x.least(), 0);
        Due.is("a 66th", x.tell(1), -1);
        x.begin(7);
        Due.is("again", x.tell(1), 1);
    }

    private static void longest() {
        RoundMill x = new RoundMill();
        x.begin(5);
        for (int i = 1; i < 64; i++) {
            x.tell(0);
        }
        x.tell(3);
        Due.is("63 0s and 3", x.least(), 64);
        Due.is("not shown", x.shown(), 0);
        for (int k = -1; k <= 66; k++) {
            Due.is("rule " + k, x.rule(k), k >= 1 && k <= 64 ? 0 : -1);
        }
        Due.is("rule least", x.rule(Integer.MIN_VALUE), -1);
        Due.is("rule most", x.rule(Integer.MAX_VALUE), -1);
    }

    /** Behind so many 0s, 64 told in all: rules of every length from 32 on. */
    private static void zerosAhead(int ahead) {
        RoundMill x = new RoundMill();
        PlainMills plain = new PlainMills();
        x.begin(3);
        plain.begin(3);
        for (int i = 0; i < 64; i++) {
            int v = i < ahead ? 0 : i == ahead ? 2 : i * i * 7 / 5 % 3;
            Due.is("tell behind 0s", x.tell(v), plain.tell(v));
        }
        int least = plain.least();
        Due.is("least behind " + ahead + " 0s", x.least(), least);
        Due.is("shown behind " + ahead + " 0s", x.shown(), 2 * least <= 64 ? 1 : 0);
        for (int k : new int[] {1, 2, 3, least / 2, least - 1, least, least + 1}) {
            Due.is("rule " + k + " behind " + ahead + " 0s", x.rule(k), plain.rule(k));
        }
    }

    /** By trying every rule, the first of them first. */
    private static void everyRule(int p, int count, int told) {
        RoundMill x = new RoundMill();
        x.begin(p);
        int[] rests = new int[count];
        for (int i = 0, left = told; i < count; i++, left /= p) {
            rests[i] = left % p;
            x.tell(rests[i]);
        }
        String of = p + " " + count + " " + told + ": ";
        for (int length = 0; ; length++) {
            int[] rule = firstRule(p, rests, length);
            if (rule != null) {
                Due.is(of + "least", x.least(), length);
                Due.is(of + "shown", x.shown(), 2 * length <= count ? 1 : 0);
                for (int k = 1; k <= length; k++) {
                    Due.is(of + "rule " + k, x.rule(k), rule[k - 1]);
                }
                Due.is(of + "behind the rule", x.rule(length + 1), -1);
                Due.is(of + "ahead of it", x.rule(0), -1);
                return;
            }
        }
    }

    private static int[] firstRule(int p, int[] rests, int length) {
        int[] rule = new int[length];
        while (true) {
            boolean holds = true;
            for (int i = length; i < rests.length; i++) {
                int sum = 0;
                for (int j = 1; j <= length; j++) {
                    sum += rule[j - 1] * rests[i - j];
                }
                holds &= sum % p == rests[i];
            }
            if (holds) {
                return rule;
            }
            int at = length - 1;
            while (at >= 0 && rule[at] == p - 1) {
                rule[at] = 0;
                at--;
            }
            if (at < 0) {
                return null;
            }
            rule[at]++;
        }
    }

    private static void against(Random random) {
        RoundMill x = new RoundMill();
        PlainMills plain = new PlainMills();
        int[] primes = {2, 2, 3, 5, 7, 13};
        int p = primes[random.nextInt(primes.length)];
        x.begin(p);
        plain.begin(p);
        int count = random.nextInt(25);
        int rare = 1 + random.nextInt(6);
        for (int i = 0; i < count; i++) {
            int v = random.nextInt(rare) == 0 ? random.nextInt(p) : 0;
            Due.is("tell", x.tell(v), plain.tell(v));
            Due.is("least", x.least(), plain.least());
            Due.is("shown", x.shown(), plain.shown());
            int k = 1 + random.nextInt(count);
            Due.is("rule " + k, x.rule(k), plain.rule(k));
        }
        for (int k = 0; k <= count + 1; k++) {
            Due.is("rule at last " + k, x.rule(k), plain.rule(k));
        }
    }

    /** What a SHIFT mill gives tells its rule. */
    private static void toldByMill(Random random) {
        RoundMill x = new RoundMill();
        int[] primes = {2, 3, 5, 101, 251, 499};
        int p = primes[random.nextInt(primes.length)];
        int size = 1 + random.nextInt(4);
        x.begin(p);
        x.mill(2, p, size);
        for (int c = 0; c < size; c++) {
            x.table(0, size - 1, c, random.nextInt(p));
            x.plate(0, c, random.nextInt(p));
        }
        for (int i = 0; i < 40; i++) {
            x.tell(x.rest(0, 0));
            x.turn(0, 1);
        }
        int least = x.least();
        Due.yes("no longer than the mill's", least <= size);
        Due.is("shown", x.shown(), 1);
        if (least == size) {
            for (int k = 1; k <= size; k++) {
                Due.is("the mill's rule", x.rule(k), x.cell(0, size - 1, size - k));
            }
        }
    }
}
