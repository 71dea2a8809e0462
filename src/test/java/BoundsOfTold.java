import java.util.Random;

/** Boundary cases of term 4 and of promises 28 to 32: begin, tell, least, shown, rule. */
final class BoundsOfTold {
    private BoundsOfTold() {
    }

    static void test() {
        terms();
        begin();
        tell();
        least();
        shown();
        rule();
    }

    private static RoundMill told(int prime, int... rests) {
        RoundMill x = new RoundMill();
        Due.yes("begin " + prime, x.begin(prime));
        for (int i = 0; i < rests.length; i++) {
            Due.is("tell", x.tell(rests[i]), i + 1);
        }
        return x;
    }

    private static void seeRule(RoundMill x, int... due) {
        Due.is("least", x.least(), due.length);
        for (int k = 1; k <= due.length; k++) {
            Due.is("number " + k, x.rule(k), due[k - 1]);
        }
        Due.is("number 0", x.rule(0), -1);
        Due.is("number " + (due.length + 1), x.rule(due.length + 1), -1);
    }

    /** So many 0s, and a 1 behind them. */
    private static int[] lateOne(int noughts) {
        int[] rests = new int[noughts + 1];
        rests[noughts] = 1;
        return rests;
    }

    private static void terms() {
        String of = "Term 4";
        Sentences.says(of, "TOLD rests, at most 64, modulo a prime P", () -> {
            RoundMill x = told(499);
            for (int i = 1; i <= 64; i++) {
                Due.is("told", x.tell(i), i);
            }
            Due.is("a 65th", x.tell(65), -1);
            // each is twice the one ahead of it, less the one ahead of that
            seeRule(x, 2, 498);
        });
        Sentences.says(of, ": a RULE of length l: numbers r1 .. rl, each rest from the l-th on (the first is the 0-th)"
            + " being r1 times the one ahead of it, r2 times the one ahead of that, and so on, modulo P.", () -> {
                seeRule(told(7, 1, 3, 2, 6, 4, 5), 3);
                seeRule(told(499, 0, 1, 1, 2, 3, 5, 8, 13, 21), 1, 1);
                seeRule(told(5, 1, 0, 0, 0, 1, 0, 0, 0), 0, 0, 0, 1);
                seeRule(told(5, 0, 0, 1, 1, 1, 2, 3, 4, 1), 1, 0, 1);
                // the 0-th is bound by nothing but a rule of length 0
                seeRule(told(5, 3, 0, 0, 0), 0);
            });
        Sentences.says(of, "LEAST is the least l for which there is one", () -> {
            Due.is("no rest", told(7).least(), 0);
            Due.is("one rest, 0", told(7, 0).least(), 0);
            Due.is("one rest, not 0", told(7, 4).least(), 1);
            Due.is("two rests", told(7, 4, 5).least(), 1);
            Due.is("0 ahead", told(7, 0, 5).least(), 2);
            for (int noughts = 0; noughts < 64; noughts++) {
                Due.is("a 1 behind " + noughts + " 0s", told(7, lateOne(noughts)).least(), noughts + 1);
            }
        });
        Sentences.says(of, "; it is SHOWN if 2 l of them or more are told: then it is the only one.", () -> {
            for (int noughts : new int[] {0, 1, 2, 5, 15, 31, 32, 63}) {
                RoundMill x = told(7, lateOne(noughts));
                int length = noughts + 1;
                for (int count = length; count <= 64; count++) {
                    Due.is(count + " told, length " + length, x.shown(), 2 * length <= count ? 1 : 0);
                    Due.is("its length stays", x.least(), length);
                    x.tell(0);
                }
            }
        });
    }

    private static void begin() {
        String of = "Promise 28";
        Sentences.says(of, "What is TOLD begins anew, modulo a prime P (2 .. 499): true", () -> {
            int primes = 0;
            for (int p = 2; p <= 499; p++) {
                if (isPrime(p)) {
                    primes++;
                    RoundMill x = told(3, 1, 2, 2, 1);
                    Due.yes("begin " + p, x.begin(p));
                    Due.is("nothing is told", x.least(), 0);
                    Due.is("nothing is shown", x.shown(), 1);
                    Due.is("no rule", x.rule(1), -1);
                    Due.is("the first", x.tell(1), 1);
                    Due.is("the second", x.tell(-1), 2);
                    Due.is("modulo " + p, x.rule(1), p - 1);
                    Due.yes("begin the same " + p, x.begin(p));
                    Due.is("anew", x.least(), 0);
                }
            }
            Due.is("primes up to 499", primes, 95);
            RoundMill full = told(3, lateOne(63));
            Due.is("full", full.tell(1), -1);
            full.begin(3);
            Due.is("full no more", full.tell(1), 1);
            Due.is("nothing of it is left", full.least(), 1);
            for (int old = 0; old < 40; old++) {
                asIfTheFirst(old);
            }
            RoundMill x = Made.single(7, 3, 2, 1);
            x.begin(5);
            Due.is("mills stay", x.look(0, 1), 7);
        });
        Sentences.says(of, "; false, and nothing happens, for others.", () -> {
            for (int p = -3; p <= 520; p++) {
                if (p > 499 || !isPrime(p)) {
                    RoundMill x = told(5, 1, 3);
                    Due.no("begin " + p, x.begin(p));
                    Due.is("they are told still", x.least(), 1);
                    Due.is("modulo 5 still", x.tell(9), 3);
                    Due.is("with their rule", x.rule(1), 3);
                }
            }
            RoundMill x = told(5, 1, 3);
            for (int p : new int[] {Made.LEAST, -499, -7, 503, 509, 521, 997, 65537, 49999 * 2, 46337, Made.MOST}) {
                Due.no("begin " + p, x.begin(p));
            }
            Due.is("modulo 5 still", x.rule(1), 3);
        });
    }

    /** Nothing is left of what was told ahead, nor of its rule. */
    private static void asIfTheFirst(int old) {
        Random random = new Random(old);
        RoundMill x = new RoundMill();
        x.begin(499);
        for (int i = 0; i < 64 - old % 20; i++) {
            x.tell(1 + random.nextInt(498));
        }
        x.rule(1);
        for (int time = 0; time < 4; time++) {
            int p = new int[] {2, 3, 7, 499}[random.nextInt(4)];
            RoundMill fresh = told(p);
            x.begin(p);
            int noughts = random.nextInt(12);
            int more = random.nextInt(20);
            for (int i = 0; i < noughts + more; i++) {
                int v = i < noughts ? 0 : random.nextInt(p);
                Due.is("tell", x.tell(v), fresh.tell(v));
                Due.is("least", x.least(), fresh.least());
            }
            for (int k = 0; k <= fresh.least() + 1; k++) {
                Due.is("rule " + k + " of " + fresh.least(), x.rule(k), fresh.rule(k));
            }
        }
    }

    private static boolean isPrime(int p) {
        int divisors = 0;
        for (int d = 1; d <= p; d++) {
            divisors += p % d == 0 ? 1 : 0;
        }
        return divisors == 2;
    }

    private static void tell() {
        String of = "Promise 29";
        Sentences.says(of, "A rest more is TOLD (its rest modulo P): how many are", () -> {
            for (int p : new int[] {2, 3, 7, 499}) {
                for (int v : new int[] {0, 1, p - 1, p, p + 1, -1, -p, -p - 1, Made.LEAST, Made.MOST}) {
                    RoundMill x = told(p, 1, v);
                    Due.is(v + " modulo " + p, x.rule(1), ((long) v % p + p) % p);
                }
            }
            RoundMill x = told(7);
            for (int i = 1; i <= 64; i++) {
                Due.is("how many", x.tell(0), i);
            }
        });
        Sentences.says(of, "; NONE, and nothing happens: there are 64.", () -> {
            RoundMill x = told(7, new int[63]);
            Due.is("the 64th", x.tell(0), 64);
            for (int v : new int[] {1, 0, -1, Made.LEAST, Made.MOST}) {
                Due.is("a 65th", x.tell(v), -1);
                Due.is("nothing happens", x.least(), 0);
            }
            x = told(7, lateOne(63));
            Due.is("a 65th", x.tell(1), -1);
            Due.is("the rule stays", x.least(), 64);
            Due.is("none more is told", x.shown(), 0);
            x = told(7, lateOne(31));
            for (int i = 32; i < 64; i++) {
                x.tell(0);
            }
            Due.is("shown by 64", x.shown(), 1);
            Due.is("a 65th", x.tell(1), -1);
            seeRule(x, new int[32]);
        });
    }

    private static void least() {
        String of = "Promise 30";
        Sentences.says(of, "LEAST of what is TOLD", () -> {
            RoundMill x = told(5);
            int[] rests = {0, 3, 3, 1, 4, 0, 4, 4, 3, 2, 0, 2};
            // one ahead of it and the one ahead of that, from the third on
            int[] due = {0, 2, 2, 2, 2, 2, 2, 2, 2, 2, 2, 2};
            for (int i = 0; i < rests.length; i++) {
                x.tell(rests[i]);
                Due.is("of " + (i + 1), x.least(), due[i]);
            }
            x.tell(0);
            Due.is("longer by one that is off the rule", x.least(), 11);
            Due.is("the longest", told(2, lateOne(63)).least(), 64);
        });
        Sentences.says(of, "(0: nothing but 0s)", () -> {
            RoundMill x = told(499);
            Due.is("nothing told", x.least(), 0);
            for (int i = 1; i <= 64; i++) {
                x.tell(i % 3 == 0 ? -499 : i % 3 == 1 ? 0 : 998);
                Due.is("0s", x.least(), 0);
            }
            x = told(2, new int[63]);
            x.tell(1);
            Due.is("not but 0s", x.least(), 64);
        });
    }

    private static void shown() {
        Sentences.says("Promise 31", "Whether it is SHOWN (1, 0).", () -> {
            Due.is("0 of none", new RoundMill().shown(), 1);
            Due.is("0 of one", told(7, 0).shown(), 1);
            Due.is("1 of one", told(7, 2).shown(), 0);
            Due.is("1 of two", told(7, 2, 3).shown(), 1);
            Due.is("2 of two", told(7, 0, 3).shown(), 0);
            Due.is("2 of three", told(7, 0, 3, 3).shown(), 0);
            Due.is("2 of four", told(7, 0, 3, 3, 6).shown(), 1);
            Due.is("3 of five", told(7, 0, 0, 1, 0, 0).shown(), 0);
            Due.is("3 of six", told(7, 0, 0, 1, 0, 0, 0).shown(), 1);
            RoundMill x = told(7, lateOne(31));
            for (int i = 33; i <= 63; i++) {
                x.tell(0);
            }
            Due.is("32 of 63", x.shown(), 0);
            x.tell(0);
            Due.is("32 of 64", x.shown(), 1);
            x = told(7, lateOne(32));
            for (int i = 34; i <= 64; i++) {
                x.tell(0);
            }
            Due.is("33 of 64", x.shown(), 0);
        });
    }

    private static void rule() {
        String of = "Promise 32";
        Sentences.says(of, "Number k (from 1 on) of a RULE of length LEAST", () -> {
            seeRule(told(499, 1, 498), 498);
            seeRule(told(7, 0, 1, 3, 1, 0, 6, 4), 3, 6);
            seeRule(told(2, 0, 0, 0, 1, 0, 0, 1, 1, 0, 1, 0, 1, 1, 1, 1), 0, 0, 1, 1);
        });
        Sentences.says(of, "(of several the least by r1, then r2, and so on)", () -> {
            // one rest: any number would do
            seeRule(told(7, 4), 0);
            // r1 is free, r2 is free
            seeRule(told(7, 0, 4), 0, 0);
            // 4 r1 is 5: r1 is bound, r2 is free
            seeRule(told(7, 0, 4, 5), 3, 0);
            seeRule(told(7, 0, 0, 1), 0, 0, 0);
            // r1 is 0, r2 is 1, r3 is free
            seeRule(told(7, 0, 0, 1, 0, 1), 0, 1, 0);
            // 2 r1 + 3 r2 is 0: r1 is free, and r2 is 0 with it
            seeRule(told(7, 3, 2, 0), 0, 0);
            // 2 r1 + 3 r2 is 1: r1 is free, and r2 is 5 with it
            seeRule(told(7, 3, 2, 1), 0, 5);
            seeRule(told(7, 1, 3, 2, 0, 5, 6, 6), plainRule(7, 1, 3, 2, 0, 5, 6, 6));
            seeRule(told(2, lateOne(63)), new int[64]);
        });
        Sentences.says(of, "; NONE if there is none such.", () -> {
            RoundMill x = new RoundMill();
            for (int k : new int[] {Made.LEAST, -1, 0, 1, 2, Made.MOST}) {
                Due.is("of nothing told number " + k, x.rule(k), -1);
            }
            x = told(7, 0, 0, 0);
            for (int k : new int[] {Made.LEAST, -1, 0, 1, 2, 3, 4, Made.MOST}) {
                Due.is("of nothing but 0s number " + k, x.rule(k), -1);
            }
            x = told(7, 0, 1, 3, 1, 0, 6, 4);
            for (int k : new int[] {Made.LEAST, -1, 0, 3, 4, 64, 65, Made.MOST}) {
                Due.is("of two number " + k, x.rule(k), -1);
            }
            x = told(7, lateOne(63));
            for (int k : new int[] {Made.LEAST, -1, 0, 65, 66, Made.MOST}) {
                Due.is("of 64 number " + k, x.rule(k), -1);
            }
            Due.is("of 64 number 64", x.rule(64), 0);
        });
    }

    private static int[] plainRule(int prime, int... rests) {
        PlainMills plain = new PlainMills();
        plain.begin(prime);
        for (int v : rests) {
            plain.tell(v);
        }
        int[] rule = new int[plain.least()];
        for (int k = 1; k <= rule.length; k++) {
            rule[k - 1] = plain.rule(k);
        }
        return rule;
    }
}
