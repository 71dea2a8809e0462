import java.util.function.Supplier;

/** Boundary cases of term 1 and of promises 1 to 9: mills, what they are told, what is seen of them. */
final class BoundsOfMills {
    private static final int[][] SWAP = {{0, 1, 0}, {1, 0, 0}};

    private BoundsOfMills() {
    }

    static void test() {
        use();
        terms();
        kinds();
        newObject();
        mill();
        drop();
        table();
        more();
        plate();
        look();
        restAndCell();
    }

    private static void use() {
        String of = "Use";
        Sentences.says(of, "An object is used for at most 512 calls after it has been made; what later calls answer is"
            + " free.", () -> {
                RoundMill x = new RoundMill();
                x.mill(1, 500, 1);
                x.table(0, 0, 0, 1);
                x.more(0, 0, 1);
                for (int call = 4; call < 512; call++) {
                    Due.yes("call " + call, x.turn(0, 1));
                }
                Due.is("call 512", x.rest(0, 0), 8);
            });
    }

    private static void terms() {
        String of = "Term 1";
        Sentences.says(of, "MILLS 0 .. 5", () -> {
            RoundMill x = new RoundMill();
            for (int m = 0; m <= 5; m++) {
                Due.is("the next mill", x.mill(1, 10 + m, 1), m);
            }
            for (int m = 0; m <= 5; m++) {
                Due.is("mill " + m, x.look(m, 1), 10 + m);
            }
            for (int m : Made.NO_MILL) {
                Due.is("mill " + m, x.look(m, 1), -1);
            }
        });
        Sentences.says(of, ", each of a KIND, a MEASURE M (2 .. 500)", () -> {
            for (int kind = 0; kind <= 2; kind++) {
                measure(kind, 2, 500);
            }
        });
        Sentences.says(of, ", a SIZE n (1 .. 4)", () -> {
            for (int kind = 0; kind <= 2; kind += 2) {
                RoundMill x = new RoundMill();
                Due.is("size 0", x.mill(kind, 9, 0), -1);
                Due.is("size 5", x.mill(kind, 9, 5), -1);
                for (int n = 1; n <= 4; n++) {
                    Due.is("size " + n, x.mill(kind, 9, n), n - 1);
                    Due.is("its size", x.look(n - 1, 2), n);
                }
            }
        });
        Sentences.says(of, ", with a TABLE (n by n rests), a MORE (n rests), a PLATE (n rests)", () -> {
            for (int n = 1; n <= 4; n++) {
                rowsOf(n);
            }
        });
        Sentences.says(of, ", all 0 at first.", BoundsOfMills::allNoughtAtFirst);
        Sentences.says(of, "All numbers are rests modulo M, 0 .. M - 1 (a number told below 0 or from M on is its"
            + " rest).", () -> {
                for (int measure : new int[] {2, 3, 64, 499, 500}) {
                    rests(measure);
                }
            });
        Sentences.says(of, "A TURN: each rest of the PLATE becomes the sum, over c, of TABLE (its row, c) times rest c,"
            + " and its MORE, at once.", () -> {
                RoundMill x = Made.house(0, 10, new int[][] {{1, 2, 3, 4}, {5, 6, 7, 8}, {9, 0, 1, 2}});
                Made.plate(x, 1, 2, 3);
                x.turn(0, 1);
                Made.seePlate(x, "a turn", (1 + 4 + 9 + 4) % 10, (5 + 12 + 21 + 8) % 10, (9 + 3 + 2) % 10);
                x = Made.house(0, 10, SWAP);
                Made.plate(x, 3, 8);
                x.turn(0, 1);
                Made.seePlate(x, "both at once", 8, 3);
                x = Made.house(0, 500, new int[][] {{499, 499, 499, 499, 499}, {499, 499, 499, 499, 499},
                    {499, 499, 499, 499, 499}, {499, 499, 499, 499, 499}});
                Made.plate(x, 499, 499, 499, 499);
                x.turn(0, 1);
                Made.seePlate(x, "the greatest numbers", 3, 3, 3, 3);
            });
    }

    private static void measure(int kind, int least, int most) {
        RoundMill x = new RoundMill();
        int size = kind == 3 ? 2 : 1;
        for (int wrong : new int[] {Made.LEAST, -least, -1, 0, least - 1, most + 1, Made.MOST}) {
            Due.is("kind " + kind + " measure " + wrong, x.mill(kind, wrong, size), -1);
        }
        Due.is("kind " + kind + " measure " + least, x.mill(kind, least, size), 0);
        Due.is("kind " + kind + " measure " + most, x.mill(kind, most, size), 1);
        Due.is("the least measure", x.look(0, 1), least);
        Due.is("the most measure", x.look(1, 1), most);
    }

    private static void rowsOf(int n) {
        RoundMill x = new RoundMill();
        x.mill(0, 500, n);
        for (int r = 0; r < n; r++) {
            for (int c = 0; c < n; c++) {
                Due.yes("table " + r + " " + c, x.table(0, r, c, 100 + 10 * r + c));
            }
            Due.yes("more " + r, x.more(0, r, 200 + r));
            Due.yes("plate " + r, x.plate(0, r, 300 + r));
        }
        for (int r = 0; r < n; r++) {
            for (int c = 0; c < n; c++) {
                Due.is("its own place " + r + " " + c, x.cell(0, r, c), 100 + 10 * r + c);
            }
            Due.is("its own more " + r, x.cell(0, r, n), 200 + r);
            Due.is("its own rest " + r, x.rest(0, r), 300 + r);
        }
        Due.no("no row n of the table", x.table(0, n, 0, 1));
        Due.no("no column n of the table", x.table(0, 0, n, 1));
        Due.no("no row n of more", x.more(0, n, 1));
        Due.no("no row n of the plate", x.plate(0, n, 1));
    }

    /** Of a mill where there was none, and of one where another one was. */
    private static void allNoughtAtFirst() {
        RoundMill x = new RoundMill();
        for (int time = 0; time < 2; time++) {
            Due.is("mill", x.mill(0, 7, 4), 0);
            for (int r = 0; r < 4; r++) {
                for (int c = 0; c <= 4; c++) {
                    Due.is("cell " + r + " " + c, x.cell(0, r, c), 0);
                }
                Due.is("rest " + r, x.rest(0, r), 0);
            }
            for (int r = 0; r < 4; r++) {
                for (int c = 0; c < 4; c++) {
                    x.table(0, r, c, 5);
                }
                x.more(0, r, 5);
                x.plate(0, r, 5);
            }
            x.drop(0);
        }
    }

    private static void rests(int measure) {
        RoundMill x = new RoundMill();
        x.mill(0, measure, 2);
        int[] told = {0, 1, measure - 1, measure, measure + 1, 2 * measure, -1, 1 - measure, -measure, -measure - 1,
            Made.LEAST, Made.MOST};
        for (int v : told) {
            int due = (int) (((long) v % measure + measure) % measure);
            String of = v + " modulo " + measure + " ";
            x.table(0, 1, 0, v);
            Due.is(of + "in the table", x.cell(0, 1, 0), due);
            x.more(0, 1, v);
            Due.is(of + "in more", x.cell(0, 1, 2), due);
            x.plate(0, 1, v);
            Due.is(of + "in the plate", x.rest(0, 1), due);
        }
    }

    private static void kinds() {
        String of = "Kinds";
        Sentences.says(of, "KINDS: 0 FREE, any TABLE.", () -> {
            RoundMill x = new RoundMill();
            Due.is("no kind below", x.mill(-1, 9, 1), -1);
            Due.is("free", x.mill(0, 9, 4), 0);
            for (int r = 0; r < 4; r++) {
                for (int c = 0; c < 4; c++) {
                    Due.yes("any place", x.table(0, r, c, r + c));
                    Due.is("any rest", x.cell(0, r, c), r + c);
                }
            }
        });
        Sentences.says(of, "1 SINGLE, n is 1.", () -> {
            RoundMill x = new RoundMill();
            for (int n : new int[] {Made.LEAST, -1, 0, 2, 3, 4, 5, Made.MOST}) {
                Due.is("a single mill of size " + n, x.mill(1, 9, n), -1);
            }
            Due.is("a single mill of size 1", x.mill(1, 9, 1), 0);
        });
        Sentences.says(of, "2 SHIFT: row r (all but the last) of the TABLE is 1 at r + 1 and else 0, its MORE 0;",
            () -> {
                for (int n = 1; n <= 4; n++) {
                    shiftRows(n);
                }
            });
        Sentences.says(of, "just the last row (the RULE, from rest 0 on) and its MORE can be told.", () -> {
            for (int n = 1; n <= 4; n++) {
                shiftTold(n);
            }
        });
        Sentences.says(of, "3 PICTURE, n is 2", () -> {
            RoundMill x = new RoundMill();
            for (int n : new int[] {Made.LEAST, -1, 0, 1, 3, 4, 5, Made.MOST}) {
                Due.is("a picture of size " + n, x.mill(3, 9, n), -1);
            }
            Due.is("a picture of size 2", x.mill(3, 9, 2), 0);
            Due.is("no kind above", x.mill(4, 9, 2), -1);
        });
        Sentences.says(of, ", M 64 at most", () -> measure(3, 2, 64));
        Sentences.says(of, "WORTH: the TABLE's determinant modulo M.", BoundsOfMills::worth);
    }

    private static void shiftRows(int n) {
        RoundMill x = new RoundMill();
        x.mill(0, 9, n);
        x.table(0, 0, 0, 5);
        x.drop(0);
        for (int measure : new int[] {2, 500}) {
            x.mill(2, measure, n);
            for (int r = 0; r < n; r++) {
                for (int c = 0; c <= n; c++) {
                    Due.is("size " + n + " cell " + r + " " + c, x.cell(0, r, c), c == r + 1 && r < n - 1 ? 1 : 0);
                }
            }
            x.drop(0);
        }
    }

    private static void shiftTold(int n) {
        Supplier<RoundMill> houses = () -> Made.empty(2, 50, n);
        for (int r = 0; r < n - 1; r++) {
            int row = r;
            for (int c = 0; c < n; c++) {
                int column = c;
                Made.refused(houses, "table " + r + " " + c, y -> y.table(0, row, column, 7));
            }
            Made.refused(houses, "more " + r, y -> y.more(0, row, 7));
        }
        RoundMill x = houses.get();
        for (int c = 0; c < n; c++) {
            Due.yes("the rule " + c, x.table(0, n - 1, c, 2 + c));
            Due.is("is told", x.cell(0, n - 1, c), 2 + c);
        }
        Due.yes("its more", x.more(0, n - 1, 7));
        Due.is("is told", x.cell(0, n - 1, n), 7);
        int due = 7;
        for (int c = 0; c < n; c++) {
            Due.yes("every row of the plate", x.plate(0, c, 3 + c));
            due += (2 + c) * (3 + c);
        }
        x.turn(0, 1);
        Due.is("the rule from rest 0 on", x.rest(0, n - 1), due % 50);
        for (int r = 0; r < n - 1; r++) {
            Due.is("the others shift", x.rest(0, r), 4 + r);
        }
    }

    private static void worth() {
        RoundMill x = Made.single(10, 7, 3, 0);
        Due.is("of one", x.look(0, 3), 7);
        x = Made.house(0, 10, SWAP);
        Due.is("of two, below 0", x.look(0, 3), 9);
        x = Made.house(0, 10, new int[][] {{2, 0, 1, 9}, {1, 3, 0, 9}, {0, 1, 4, 9}});
        Due.is("of three", x.look(0, 3), 25 % 10);
        x = Made.house(0, 500, new int[][] {{2, 0, 0, 1, 9}, {0, 3, 0, 0, 9}, {0, 0, 4, 0, 9}, {1, 0, 0, 5, 9}});
        Due.is("of four", x.look(0, 3), 108);
        x = Made.house(0, 500, new int[][] {{0, 499, 499, 499, 0}, {499, 0, 499, 499, 0}, {499, 499, 0, 499, 0},
            {499, 499, 499, 0, 0}});
        Due.is("of four with the greatest numbers", x.look(0, 3), 497);
        x = Made.house(0, 499, new int[][] {{2, 3, 5, 7, 0}, {11, 13, 17, 19, 0}, {23, 29, 31, 37, 0},
            {41, 43, 47, 53, 0}});
        Due.is("of the first primes", x.look(0, 3), 880 - 499);
        x = Made.wheel(10, 4);
        Due.is("of a wheel of four", x.look(0, 3), 9);
        x = Made.wheel(10, 3);
        Due.is("of a wheel of three", x.look(0, 3), 1);
        Due.is("at first", new RoundMill().look(0, 3), -1);
        x = new RoundMill();
        x.mill(0, 10, 4);
        Due.is("of 0s", x.look(0, 3), 0);
    }

    private static void newObject() {
        String of = "Promise 1";
        Sentences.says(of, "No mills", () -> {
            Made.single(7, 3, 2, 1);
            RoundMill x = new RoundMill();
            for (int m = -1; m <= 6; m++) {
                HouseTest.nothingAt(x, m);
            }
            Due.is("the first is 0", x.mill(0, 2, 1), 0);
        });
        Sentences.says(of, ", nothing TOLD", () -> {
            new RoundMill().tell(1);
            RoundMill x = new RoundMill();
            Due.is("least", x.least(), 0);
            Due.is("shown", x.shown(), 1);
            Due.is("rule 0", x.rule(0), -1);
            Due.is("rule 1", x.rule(1), -1);
            Due.is("the first one told", x.tell(1), 1);
        });
        Sentences.says(of, "(P 2)", () -> {
            RoundMill x = new RoundMill();
            x.tell(2);
            x.tell(4);
            x.tell(-2);
            Due.is("even numbers are 0", x.least(), 0);
            x.tell(1);
            x.tell(-1);
            Due.is("odd ones are 1", x.rule(1), 1);
            new RoundMill().begin(5);
            x = new RoundMill();
            x.tell(1);
            x.tell(3);
            Due.is("whatever another house has begun", x.rule(1), 1);
        });
    }

    private static void mill() {
        String of = "Promise 2";
        Sentences.says(of, "A mill comes, the least number that is free", () -> {
            RoundMill x = new RoundMill();
            for (int m = 0; m < 6; m++) {
                Due.is("one after the other", x.mill(m % 3, 5, 1), m);
            }
            for (int gone : new int[] {5, 3, 0}) {
                x.drop(gone);
            }
            for (int due : new int[] {0, 3, 5}) {
                Due.is("the least first", x.mill(1, 6, 1), due);
            }
        });
        Sentences.says(of, "A mill comes", () -> {
            asIfTheFirst();
            manyOneAfterTheOther();
        });
        Sentences.says(of, "; NONE: six there are", () -> {
            RoundMill x = new RoundMill();
            for (int m = 0; m < 6; m++) {
                x.mill(0, 5 + m, 1);
            }
            for (int kind = 0; kind < 4; kind++) {
                Due.is("a seventh", x.mill(kind, 9, kind == 3 ? 2 : 1), -1);
            }
            for (int m = 0; m < 6; m++) {
                Due.is("the six stay", x.look(m, 1), 5 + m);
            }
            x.drop(4);
            Due.is("one is free again", x.mill(0, 9, 1), 4);
            Due.is("none is free again", x.mill(0, 9, 1), -1);
        });
        Sentences.says(of, ", or no such KIND", () -> {
            for (int kind : new int[] {Made.LEAST, -4, -1, 4, 5, Made.MOST}) {
                noSuchMill(kind, 9, 1);
                noSuchMill(kind, 9, 2);
            }
        });
        Sentences.says(of, ", MEASURE", () -> {
            for (int measure : new int[] {Made.LEAST, -500, -2, -1, 0, 1, 501, 502, Made.MOST}) {
                noSuchMill(0, measure, 1);
                noSuchMill(0, measure, 4);
                noSuchMill(1, measure, 1);
                noSuchMill(2, measure, 2);
                noSuchMill(3, measure, 2);
            }
            noSuchMill(3, 65, 2);
            noSuchMill(3, 500, 2);
        });
        Sentences.says(of, ", SIZE.", () -> {
            for (int size : new int[] {Made.LEAST, -1, 0, 5, 6, Made.MOST}) {
                for (int kind = 0; kind < 4; kind++) {
                    noSuchMill(kind, 9, size);
                }
            }
            for (int size : new int[] {2, 3, 4}) {
                noSuchMill(1, 9, size);
            }
            for (int size : new int[] {1, 3, 4}) {
                noSuchMill(3, 9, size);
            }
        });
    }

    /** Nothing is left of what was found of a mill that had the same number. */
    private static void asIfTheFirst() {
        int[][] shapes = {{0, 500, 4}, {0, 9, 4}, {1, 500, 1}, {1, 7, 1}, {2, 499, 4}, {2, 12, 1}, {2, 8, 2},
            {3, 64, 2}, {3, 5, 2}, {0, 2, 3}};
        for (int[] old : shapes) {
            for (int[] s : shapes) {
                RoundMill x = new RoundMill();
                x.mill(old[0], old[1], old[2]);
                for (int i = 0; i < old[2]; i++) {
                    x.table(0, i, old[2] - 1 - i, 3 + 2 * i);
                    x.more(0, i, 5);
                }
                x.paint(0, 1, 1, 9);
                Made.answers(x);
                x.drop(0);
                x.mill(s[0], s[1], s[2]);
                String anew = Made.answers(x);
                RoundMill first = new RoundMill();
                first.mill(s[0], s[1], s[2]);
                String call = "kind " + s[0] + " measure " + s[1] + " behind kind " + old[0] + " measure " + old[1];
                Due.yes(call + ": all as of a first one", Made.answers(first).equals(anew));
            }
        }
    }

    /** What was found of many mills that had the same number doesn't gather. */
    private static void manyOneAfterTheOther() {
        RoundMill x = new RoundMill();
        int[] measures = {499, 491, 487, 479, 467, 463, 461, 457, 449, 443, 439, 433, 431, 421, 419, 409, 401, 397,
            389};
        for (int measure : measures) {
            RoundMill first = new RoundMill();
            x.mill(2, measure, 4);
            first.mill(2, measure, 4);
            for (int c = 0; c < 4; c++) {
                x.table(0, 3, c, 2 + 3 * c);
                first.table(0, 3, c, 2 + 3 * c);
            }
            x.plate(0, 3, 1);
            first.plate(0, 3, 1);
            Due.is("order modulo " + measure, x.order(0), first.order(0));
            Due.is("round modulo " + measure, x.round(0), first.round(0));
            x.plate(0, 3, 0);
            Due.is("round of 0s modulo " + measure, x.round(0), 1);
            Due.yes("its end", x.drop(0));
        }
    }

    private static void noSuchMill(int kind, int measure, int size) {
        RoundMill x = new RoundMill();
        Due.is("mill " + kind + " " + measure + " " + size, x.mill(kind, measure, size), -1);
        Due.is("no mill has come", x.look(0, 0), -1);
        Due.is("the least number is free still", x.mill(0, 9, 1), 0);
    }

    private static void drop() {
        String of = "Promise 3";
        Sentences.says(of, "A mill is gone: true", () -> {
            for (int gone = 0; gone < 6; gone++) {
                RoundMill x = new RoundMill();
                for (int m = 0; m < 6; m++) {
                    x.mill(3, 5 + m, 2);
                }
                Due.yes("drop " + gone, x.drop(gone));
                HouseTest.nothingAt(x, gone);
                for (int m = 0; m < 6; m++) {
                    Due.is("mill " + m, x.look(m, 1), m == gone ? -1 : 5 + m);
                }
            }
        });
        Sentences.says(of, "; false if there is none such.", () -> {
            RoundMill x = new RoundMill();
            Due.no("none has been made", x.drop(0));
            x.mill(0, 5, 1);
            Due.no("the next one", x.drop(1));
            for (int m : Made.NO_MILL) {
                Due.no("drop " + m, x.drop(m));
            }
            Due.is("it stays", x.look(0, 1), 5);
            Due.yes("the first time", x.drop(0));
            Due.no("the second time", x.drop(0));
        });
    }

    private static void table() {
        String of = "Promise 4";
        Sentences.says(of, "A rest of the TABLE: true", () -> {
            for (int kind = 0; kind < 4; kind++) {
                int n = kind == 1 ? 1 : kind == 3 ? 2 : 4;
                RoundMill x = new RoundMill();
                x.mill(kind, 9, n);
                Due.yes("the last row and column", x.table(0, n - 1, n - 1, 8));
                Due.is("is told", x.cell(0, n - 1, n - 1), 8);
                Due.yes("told anew", x.table(0, n - 1, n - 1, 0));
                Due.is("is told anew", x.cell(0, n - 1, n - 1), 0);
            }
        });
        Sentences.says(of, "; false, and nothing happens: no such mill", () -> {
            Supplier<RoundMill> houses = () -> Made.house(0, 9, SWAP);
            for (int m : new int[] {Made.LEAST, -1, 1, 5, 6, Made.MOST}) {
                Made.refused(houses, "mill " + m, x -> x.table(m, 0, 0, 7));
            }
        });
        Sentences.says(of, ", row", () -> {
            for (int n = 1; n <= 4; n++) {
                int size = n;
                Supplier<RoundMill> houses = () -> Made.empty(0, 9, size);
                for (int row : new int[] {Made.LEAST, -1, n, 5, Made.MOST}) {
                    Made.refused(houses, "size " + n + " row " + row, x -> x.table(0, row, 0, 7));
                }
            }
        });
        Sentences.says(of, ", column", () -> {
            for (int n = 1; n <= 4; n++) {
                int size = n;
                Supplier<RoundMill> houses = () -> Made.empty(0, 9, size);
                for (int column : new int[] {Made.LEAST, -1, n, 5, Made.MOST}) {
                    Made.refused(houses, "size " + n + " column " + column, x -> x.table(0, 0, column, 7));
                }
            }
        });
        Sentences.says(of, ", or it can't be told.", () -> {
            for (int last = 0; last <= 2; last++) {
                int row = last;
                Supplier<RoundMill> houses = () -> Made.wheel(9, row + 2);
                Made.refused(houses, "the first row", x -> x.table(0, 0, 0, 7));
                Made.refused(houses, "the last but one", x -> x.table(0, row, row, 7));
                Made.refused(houses, "its 1", x -> x.table(0, row, row + 1, 5));
            }
        });
        Sentences.says(of, "(What was found of the mill is found anew then.)", () -> {
            foundAnew();
            foundAnewManyTimes();
        });
    }

    private static void foundAnew() {
        RoundMill x = Made.single(8, 5, 3, 1);
        Due.is("order", x.order(0), 8);
        Due.is("all", x.all(0), 1);
        Due.is("round", x.round(0), 8);
        Due.is("fixed", x.fixed(0, 4), 0);
        Due.is("rounds", x.rounds(0, 8), 8);
        Due.is("check", x.check(0, 8), 1);
        Due.is("short", x.shortest(0, 2), 8);
        Due.is("leap", x.leap(0, 1L << 40), true);
        x.table(0, 0, 0, 2);
        Due.is("order anew", x.order(0), -1);
        Due.is("all anew", x.all(0), 0);
        Due.is("tail anew", x.tail(0), 1);
        Due.is("round anew", x.round(0), 1);
        Due.is("fixed anew", x.fixed(0, 4), 1);
        Due.is("rounds anew", x.rounds(0, 8), 0);
        Due.is("check anew", x.check(0, 8), 0);
        Due.is("worth anew", x.look(0, 3) + 10 * x.look(0, 4), 2);
        Due.is("worth of the part anew", x.part(0, 0, 3), 2);
        Due.is("short anew", x.shortest(0, 2), 5);
        Due.is("line anew", x.line(0, 2, 0) * 10 + x.line(0, 2, 1), 19);
        x.leap(0, 1L << 40);
        Due.is("leap anew", x.rest(0, 0), 5);
        x = Made.painted(5, new int[][] {{1, 0, 0}, {0, 1, 0}}, 1, 2, 9);
        Due.is("seen", x.seen(0), 1);
        x.table(0, 0, 0, 2);
        Due.is("seen anew", x.seen(0), 4);
        x.more(0, 1, 1);
        Due.is("seen anew by more", x.seen(0), 20);
        x.move(0, 1);
        Due.is("moved anew", x.picture(0, 2, 3), 9);
    }

    /** What was found of many tables doesn't gather. */
    private static void foundAnewManyTimes() {
        for (int measure : new int[] {499, 420, 341, 377}) {
            RoundMill x = Made.wheel(measure, 4);
            for (int v = 1; v <= 60; v++) {
                RoundMill fresh = Made.wheel(measure, 4);
                for (int c = 0; c < 4; c++) {
                    int told = v * (c + 3) * (v + 5 * c);
                    x.table(0, 3, c, told);
                    fresh.table(0, 3, c, told);
                }
                Due.is("round of table " + v, x.round(0), fresh.round(0));
                Due.is("order of table " + v, x.order(0), fresh.order(0));
                long length = fresh.round(0);
                Due.is("rounds of table " + v, x.rounds(0, length), fresh.rounds(0, length));
            }
        }
    }

    private static void more() {
        String of = "Promise 5";
        Sentences.says(of, "A rest of MORE: true", () -> {
            for (int kind = 0; kind < 4; kind++) {
                int n = kind == 1 ? 1 : kind == 3 ? 2 : 4;
                RoundMill x = new RoundMill();
                x.mill(kind, 9, n);
                Due.yes("the last row", x.more(0, n - 1, 8));
                Due.is("is told", x.cell(0, n - 1, n), 8);
                Due.is("the first row", x.more(0, 0, 4), kind != 2);
            }
            RoundMill x = Made.single(8, 1, 0, 3);
            Due.is("order without it", x.order(0), 1);
            Due.is("round without it", x.round(0), 1);
            x.more(0, 0, 1);
            Due.is("order found anew with it", x.order(0), 8);
            Due.is("round found anew with it", x.round(0), 8);
            Due.is("all found anew with it", x.all(0), 1);
        });
        Sentences.says(of, "; false likewise.", () -> {
            for (int n = 1; n <= 4; n++) {
                int size = n;
                Supplier<RoundMill> houses = () -> Made.empty(0, 9, size);
                for (int m : new int[] {Made.LEAST, -1, 1, 5, 6, Made.MOST}) {
                    Made.refused(houses, "mill " + m, x -> x.more(m, 0, 7));
                }
                for (int row : new int[] {Made.LEAST, -1, n, 5, Made.MOST}) {
                    Made.refused(houses, "size " + n + " row " + row, x -> x.more(0, row, 7));
                }
            }
            Supplier<RoundMill> wheels = () -> Made.wheel(9, 4);
            for (int r = 0; r < 3; r++) {
                int row = r;
                Made.refused(wheels, "it can't be told in row " + r, x -> x.more(0, row, 7));
            }
        });
    }

    private static void plate() {
        String of = "Promise 6";
        Sentences.says(of, "A rest of the PLATE: true", () -> {
            for (int kind = 0; kind < 4; kind++) {
                int n = kind == 1 ? 1 : kind == 3 ? 2 : 4;
                RoundMill x = new RoundMill();
                x.mill(kind, 9, n);
                for (int r = 0; r < n; r++) {
                    Due.yes("row " + r, x.plate(0, r, 4 + r));
                    Due.is("is told", x.rest(0, r), 4 + r);
                }
            }
            RoundMill x = Made.single(7, 3, 0, 0);
            Due.is("round of 0", x.round(0), 1);
            x.plate(0, 0, 1);
            Due.is("round of 1", x.round(0), 6);
        });
        Sentences.says(of, "; false: no such mill", () -> {
            Supplier<RoundMill> houses = () -> Made.house(0, 9, SWAP);
            for (int m : new int[] {Made.LEAST, -1, 1, 5, 6, Made.MOST}) {
                Made.refused(houses, "mill " + m, x -> x.plate(m, 0, 7));
            }
        });
        Sentences.says(of, ", row.", () -> {
            for (int n = 1; n <= 4; n++) {
                int size = n;
                Supplier<RoundMill> houses = () -> Made.empty(0, 9, size);
                for (int row : new int[] {Made.LEAST, -1, n, 4, Made.MOST}) {
                    Made.refused(houses, "size " + n + " row " + row, x -> x.plate(0, row, 7));
                }
            }
        });
    }

    private static void look() {
        String of = "Promise 7";
        Sentences.says(of, "Of a mill, what 0: KIND, 1: MEASURE, 2: SIZE", () -> {
            int[][] mills = {{0, 2, 1}, {1, 500, 1}, {2, 499, 4}, {3, 64, 2}, {3, 2, 2}, {2, 2, 1}};
            RoundMill x = new RoundMill();
            for (int[] m : mills) {
                x.mill(m[0], m[1], m[2]);
            }
            for (int m = 0; m < mills.length; m++) {
                for (int what = 0; what < 3; what++) {
                    Due.is("mill " + m + " what " + what, x.look(m, what), mills[m][what]);
                }
            }
        });
        Sentences.says(of, ", 3: WORTH", () -> {
            RoundMill x = Made.house(0, 10, SWAP);
            Due.is("below 0", x.look(0, 3), 9);
            x.table(0, 0, 1, 0);
            Due.is("0", x.look(0, 3), 0);
        });
        Sentences.says(of, ", 4: whether WORTH has no divisor with M (1, 0)", () -> {
            for (int measure : new int[] {2, 4, 6, 9, 30, 64, 210, 499, 500}) {
                for (int t : new int[] {0, 1, 2, 3, 5, 7, 15, measure / 2, measure - 1}) {
                    boolean shared = false;
                    for (int d = 2; d <= measure; d++) {
                        shared |= measure % d == 0 && t % measure % d == 0;
                    }
                    Due.is(t + " and " + measure, Made.single(measure, t, 1, 0).look(0, 4), shared ? 0 : 1);
                }
            }
        });
        Sentences.says(of, ", 5: PARTS.", () -> {
            int[][] due = {{2, 1}, {256, 1}, {499, 1}, {6, 2}, {500, 2}, {30, 3}, {210, 4}, {420, 4}, {462, 4}};
            for (int[] d : due) {
                Due.is("parts of " + d[0], Made.single(d[0], 1, 0, 0).look(0, 5), d[1]);
            }
        });
        Sentences.says(of, "NONE if there is none such.", () -> {
            RoundMill x = Made.single(7, 3, 0, 0);
            for (int what : new int[] {Made.LEAST, -1, 6, 7, Made.MOST}) {
                Due.is("what " + what, x.look(0, what), -1);
            }
            for (int what = 0; what < 6; what++) {
                for (int m : new int[] {Made.LEAST, -1, 1, 5, 6, Made.MOST}) {
                    Due.is("mill " + m + " what " + what, x.look(m, what), -1);
                }
            }
        });
    }

    private static void restAndCell() {
        Sentences.says("Promise 8", "A rest of the PLATE", () -> {
            RoundMill x = new RoundMill();
            x.mill(0, 500, 4);
            Made.plate(x, 499, 0, 1, 250);
            Made.seePlate(x, "told", 499, 0, 1, 250);
        });
        Sentences.says("Promise 8", "; NONE if there is none such.", () -> {
            for (int n = 1; n <= 4; n++) {
                RoundMill x = new RoundMill();
                x.mill(0, 9, n);
                for (int row : new int[] {Made.LEAST, -1, n, 4, Made.MOST}) {
                    Due.is("size " + n + " row " + row, x.rest(0, row), -1);
                }
                for (int m : new int[] {Made.LEAST, -1, 1, 5, 6, Made.MOST}) {
                    Due.is("mill " + m, x.rest(m, 0), -1);
                }
            }
        });
        Sentences.says("Promise 9", "A rest of the TABLE (column n: of MORE)", () -> {
            for (int n = 1; n <= 4; n++) {
                RoundMill x = new RoundMill();
                x.mill(0, 9, n);
                x.table(0, n - 1, n - 1, 5);
                x.more(0, n - 1, 8);
                Due.is("the last column of the table", x.cell(0, n - 1, n - 1), 5);
                Due.is("column n", x.cell(0, n - 1, n), 8);
            }
        });
        Sentences.says("Promise 9", "; NONE if there is none such.", () -> {
            for (int n = 1; n <= 4; n++) {
                RoundMill x = new RoundMill();
                x.mill(0, 9, n);
                for (int row : new int[] {Made.LEAST, -1, n, 4, Made.MOST}) {
                    Due.is("size " + n + " row " + row, x.cell(0, row, 0), -1);
                    Due.is("size " + n + " row " + row + " of more", x.cell(0, row, n), -1);
                }
                for (int column : new int[] {Made.LEAST, -1, n + 1, 5, Made.MOST}) {
                    Due.is("size " + n + " column " + column, x.cell(0, 0, column), -1);
                }
                for (int m : new int[] {Made.LEAST, -1, 1, 5, 6, Made.MOST}) {
                    Due.is("mill " + m, x.cell(m, 0, 0), -1);
                }
            }
        });
    }
}
