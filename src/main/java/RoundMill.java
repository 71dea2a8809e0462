import java.util.Arrays;

/** Mills that do the same thing again and again with rows of rests. */
public final class RoundMill {
    public static final int NONE = -1;

    private static final int MILLS = 6;
    private static final int FREE = 0;
    private static final int SINGLE = 1;
    private static final int SHIFT = 2;
    private static final int PICTURE = 3;
    private static final int LEAST_MEASURE = 2;
    private static final int MOST_MEASURE = 500;
    private static final int MOST_PICTURE = 64;
    private static final int MOST_SIZE = 4;
    private static final int MOST_COLOUR = 255;
    private static final int MOST_TURNS = 5000;
    private static final int LEAST_NEIGHBOURS = 2;
    private static final int MOST_NEIGHBOURS = 4;
    private static final int NO_NUMBER = 501;
    private static final int MOST_PRIME = 499;
    private static final int MOST_TOLD = 64;
    private static final long LONGEST = 1000000000000L;
    private static final int LONG_BITS = 64;

    private final Mill[] mills = new Mill[MILLS];
    private final Told told = new Told();
    private final int[] spareCells = new int[MOST_PICTURE * MOST_PICTURE];

    public RoundMill() {
        for (int i = 0; i < mills.length; i++) {
            mills[i] = new Mill();
        }
    }

    public int mill(int kind, int measure, int size) {
        if (!Mill.canBe(kind, measure, size)) {
            return NONE;
        }
        for (int i = 0; i < mills.length; i++) {
            if (!mills[i].there) {
                mills[i].open(kind, measure, size);
                return i;
            }
        }
        return NONE;
    }

    public boolean drop(int mill) {
        Mill m = millAt(mill);
        if (m == null) {
            return false;
        }
        m.there = false;
        return true;
    }

    public boolean table(int mill, int row, int column, int v) {
        Mill m = millAt(mill);
        if (m == null || !m.canTell(row) || !m.hasRest(column)) {
            return false;
        }
        m.put(row, column, v);
        return true;
    }

    public boolean more(int mill, int row, int v) {
        Mill m = millAt(mill);
        if (m == null || !m.canTell(row)) {
            return false;
        }
        m.put(row, Powers.MORE, v);
        return true;
    }

    public boolean plate(int mill, int row, int v) {
        Mill m = millAt(mill);
        if (m == null || !m.hasRest(row)) {
            return false;
        }
        m.plate[row] = Numbers.restOf(v, m.measure);
        return true;
    }

    public int look(int mill, int what) {
        Mill m = millAt(mill);
        if (m == null) {
            return NONE;
        }
        switch (what) {
            case 0: return m.kind;
            case 1: return m.measure;
            case 2: return m.size;
            case 3: return m.worth();
            case 4: return m.goesBack() ? 1 : 0;
            case 5: return m.partCount();
            default: return NONE;
        }
    }

    public int rest(int mill, int row) {
        Mill m = millAt(mill);
        return m == null || !m.hasRest(row) ? NONE : m.plate[row];
    }

    public int cell(int mill, int row, int column) {
        Mill m = millAt(mill);
        if (m == null || !m.hasRest(row) || column < 0 || column > m.size) {
            return NONE;
        }
        return m.powers.told(row, column == m.size ? Powers.MORE : column);
    }

    public boolean turn(int mill, int turns) {
        Mill m = millAt(mill);
        if (m == null || turns < 0 || turns > MOST_TURNS) {
            return false;
        }
        m.powers.carryRow(turns, m.plate);
        return true;
    }

    public boolean leap(int mill, long turns) {
        Mill m = millAt(mill);
        if (m == null || turns < 0) {
            return false;
        }
        m.powers.carryRow(turns, m.plate);
        return true;
    }

    public boolean back(int mill, long turns) {
        Mill m = millAt(mill);
        if (m == null || turns < 0 || !m.goesBack()) {
            return false;
        }
        m.powers.carryRow(m.rounds.turnsAhead(turns), m.plate);
        return true;
    }

    public int tail(int mill) {
        Mill m = millAt(mill);
        return m == null ? NONE : m.rounds.tailOf(m.plate);
    }

    public long round(int mill) {
        Mill m = millAt(mill);
        return m == null ? NONE : m.rounds.roundOf(m.plate);
    }

    public long order(int mill) {
        Mill m = millAt(mill);
        return m == null || !m.goesBack() ? NONE : m.rounds.wholeRound();
    }

    public long fixed(int mill, long turns) {
        Mill m = millAt(mill);
        return m == null || turns < 0 ? NONE : m.rounds.platesFixed(turns);
    }

    public long rounds(int mill, long length) {
        Mill m = millAt(mill);
        if (m == null || length < 1 || length > LONGEST) {
            return NONE;
        }
        return m.rounds.platesInRounds(length);
    }

    public int part(int mill, int k, int what) {
        Mill m = millAt(mill);
        Part p = m == null ? null : m.partAt(k);
        if (p == null) {
            return NONE;
        }
        switch (what) {
            case 0: return p.prime;
            case 1: return p.power;
            case 2: return p.often;
            case 3: return Numbers.restOf(m.worth(), p.power);
            default: return NONE;
        }
    }

    public int split(int mill, int k, int r) {
        Mill m = millAt(mill);
        Part p = m == null ? null : m.partAt(k);
        return p == null || !m.hasRest(r) ? NONE : Numbers.restOf(m.plate[r], p.power);
    }

    public boolean join(int mill, int k, int r, int v) {
        Mill m = millAt(mill);
        Part p = m == null ? null : m.partAt(k);
        if (p == null || !m.hasRest(r)) {
            return false;
        }
        m.plate[r] = p.joined(m.plate[r], v, m.measure);
        return true;
    }

    public int all(int mill) {
        Mill m = millOf(mill, SINGLE);
        if (m == null) {
            return NONE;
        }
        return m.oneRoundHoldsAll() ? 1 : 0;
    }

    public int shortest(int mill, int neighbours) {
        Mill m = millOf(mill, SINGLE);
        if (m == null || neighbours < LEAST_NEIGHBOURS || neighbours > MOST_NEIGHBOURS) {
            return NONE;
        }
        m.net.find(m.powers.told(0, 0), m.measure, neighbours);
        return m.net.squares;
    }

    public int line(int mill, int neighbours, int k) {
        Mill m = millOf(mill, SINGLE);
        if (m == null || neighbours < LEAST_NEIGHBOURS || neighbours > MOST_NEIGHBOURS
                || k < 0 || k >= neighbours) {
            return NO_NUMBER;
        }
        m.net.find(m.powers.told(0, 0), m.measure, neighbours);
        return m.net.line[k];
    }

    public boolean paint(int mill, int x, int y, int v) {
        Mill m = millOf(mill, PICTURE);
        if (m == null || !m.picture.has(x, y) || v < 0 || v > MOST_COLOUR) {
            return false;
        }
        m.picture.cells[m.picture.place(x, y)] = v;
        return true;
    }

    public int picture(int mill, int x, int y) {
        Mill m = millOf(mill, PICTURE);
        if (m == null || !m.picture.has(x, y)) {
            return NONE;
        }
        return m.picture.cells[m.picture.place(x, y)];
    }

    public boolean move(int mill, long turns) {
        Mill m = millOf(mill, PICTURE);
        if (m == null || turns < 0 || !m.goesBack()) {
            return false;
        }
        m.picture.moveBy(m.rounds.stepOf(turns), spareCells);
        return true;
    }

    public long seen(int mill) {
        Mill m = millOf(mill, PICTURE);
        return m == null || !m.goesBack() ? NONE : m.rounds.turnsToLookAlike(m.picture);
    }

    public boolean begin(int p) {
        if (!Numbers.isTellingPrime(p)) {
            return false;
        }
        told.clear(p);
        return true;
    }

    public int tell(int v) {
        return told.add(v) ? told.count : NONE;
    }

    public int least() {
        return told.length;
    }

    public int shown() {
        return 2 * told.length <= told.count ? 1 : 0;
    }

    public int rule(int k) {
        if (k < 1 || k > told.length) {
            return NONE;
        }
        told.findNumbers();
        return told.numbers[k];
    }

    public int check(int mill, long n) {
        Mill m = millAt(mill);
        if (m == null || n < 1 || n > LONGEST) {
            return NONE;
        }
        // Coming back after n turns, but after n divided by no prime of n, says just that the round is n.
        return m.rounds.roundOf(m.plate) == n ? 1 : 0;
    }

    private Mill millAt(int number) {
        if (number < 0 || number >= mills.length) {
            return null;
        }
        return mills[number].there ? mills[number] : null;
    }

    private Mill millOf(int number, int kind) {
        Mill m = millAt(number);
        return m != null && m.kind == kind ? m : null;
    }

    /** What whole numbers ask for on their own. */
    private static final class Numbers {
        private Numbers() {
        }

        static int restOf(long v, int measure) {
            return measure > 0 ? (int) Math.floorMod(v, (long) measure) : 0;
        }

        /** For numbers from 0 on. */
        static long commonDivisor(long a, long b) {
            long x = a;
            long y = b;
            // Two steps at least halve the greater number: 128 are enough for any long.
            for (int i = 0; i < 128 && y != 0; i++) {
                long left = x % y;
                x = y;
                y = left;
            }
            return x;
        }

        /** 0 if no number's product with v is 1. */
        static int inverse(int v, int measure) {
            int x = measure;
            int y = restOf(v, measure);
            int past = 0;
            int now = 1;
            for (int i = 0; i < 64 && y != 0; i++) {
                int q = x / y;
                int left = x - q * y;
                int next = past - q * now;
                x = y;
                y = left;
                past = now;
                now = next;
            }
            return x == 1 ? restOf(past, measure) : 0;
        }

        static boolean isTellingPrime(int p) {
            if (p < 2 || p > MOST_PRIME) {
                return false;
            }
            for (int d = 2; d * d <= p; d++) {
                if (p % d == 0) {
                    return false;
                }
            }
            return true;
        }
    }

    /** Primes, each of them once. */
    private static final class Primes {
        // The primes that a part can ask for have a product below 10^19, and so are 15 at most.
        final int[] prime = new int[16];
        int count;

        Primes() {
        }

        void clear() {
            count = 0;
        }

        void add(int p) {
            for (int i = 0; i < count; i++) {
                if (prime[i] == p) {
                    return;
                }
            }
            if (count < prime.length) {
                prime[count] = p;
                count++;
            }
        }

        /** For numbers whose root is at most 500, as those of a part are. */
        void addThoseOf(int number) {
            int left = number;
            for (int d = 2; d <= MOST_MEASURE && d * d <= left; d++) {
                if (left % d == 0) {
                    add(d);
                }
                for (int i = 0; i < 32 && left % d == 0; i++) {
                    left /= d;
                }
            }
            if (left > 1) {
                add(left);
            }
        }
    }

    /** A prime's highest power in a measure; with power 1 it is no part of it. */
    private static final class Part {
        int prime;
        int power = 1;
        int often;

        Part() {
        }

        void leave() {
            prime = 0;
            power = 1;
            often = 0;
        }

        /** Takes the prime out of a number as often as it is in it: what is left of the number. */
        int take(int p, int number) {
            int left = number;
            leave();
            prime = p;
            for (int i = 0; i < 32 && p > 1 && left % p == 0; i++) {
                left /= p;
                power *= p;
                often++;
            }
            return left;
        }

        /** The rest that is v modulo this part, and old modulo the measure's others. */
        int joined(int old, int v, int measure) {
            if (power < 1) {
                return old;
            }
            int others = measure / power;
            int gap = Numbers.restOf((long) v - old, power);
            int times = Numbers.restOf((long) gap * Numbers.inverse(others, power), power);
            return Numbers.restOf((long) old + (long) others * times, measure);
        }

        /**
         * Turns that bring back every plate that is in a round modulo this part, whatever the mill's table. Modulo
         * the prime p they are a multiple of p^i - 1 for each i up to the size, since a table's roots lie in fields
         * of p^i, times a power of p above the size, for roots that stand there again (MORE counts as a root 1);
         * each power of p more asks for p once more. At most 7.8 * 10^18 (for 499): a long holds it.
         */
        long enoughTurns(int size) {
            long turns = prime - 1;
            if (size > 1) {
                turns *= prime + 1;
            }
            if (size > 2) {
                turns *= prime * prime + prime + 1;
            }
            if (size > 3) {
                turns *= prime * prime + 1;
            }
            long repeated = 1;
            for (int i = 0; i < 3 && repeated <= size; i++) {
                repeated *= prime;
            }
            return prime > 0 ? turns * repeated * (power / prime) : 1;
        }

        /** The primes of enoughTurns, the greater ones mostly first, since to be rid of these shortens the rest. */
        void listPrimes(int size, Primes into) {
            into.clear();
            if (size > 3) {
                into.addThoseOf(prime * prime + 1);
            }
            if (size > 2) {
                into.addThoseOf(prime * prime + prime + 1);
            }
            if (size > 1) {
                into.addThoseOf(prime + 1);
            }
            into.addThoseOf(prime - 1);
            into.add(prime);
        }
    }

    /** A mill's TURN, and its 2, 4, 8 .. TURNS as one step each, made when they are first asked for. */
    private static final class Powers {
        static final int MORE = MOST_SIZE;
        static final int WIDTH = MOST_SIZE + 1;
        static final int CELLS = MOST_SIZE * WIDTH;
        /** No tail is longer: a row of four rests modulo 256 can fall no more than 4 * 8 times. */
        static final int LONGEST_TAIL = 32;
        private static final int SETTLING = 5;

        private final int[][] steps = new int[LONG_BITS - 1][CELLS];
        private final int[] spareStep = new int[CELLS];
        private final int[] spareRow = new int[MOST_SIZE];
        private int known = 1;
        private int measure = 1;
        int size = 1;

        Powers() {
        }

        void clear(int newMeasure, int newSize) {
            Arrays.fill(steps[0], 0);
            known = 1;
            measure = newMeasure;
            size = newSize;
        }

        void put(int row, int column, int v) {
            steps[0][row * WIDTH + column] = v;
            known = 1;
        }

        int told(int row, int column) {
            return steps[0][row * WIDTH + column];
        }

        /** The step behind which every plate is in a round. */
        int[] settling() {
            reach(1L << SETTLING);
            return steps[SETTLING];
        }

        void carryRow(long turns, int[] row) {
            reach(turns);
            for (int i = 0; i < known && (turns >>> i) != 0; i++) {
                if (((turns >>> i) & 1L) == 1L) {
                    apply(steps[i], row, spareRow);
                    System.arraycopy(spareRow, 0, row, 0, size);
                }
            }
        }

        /** The step goes on by so many turns. */
        void carryStep(long turns, int[] step) {
            reach(turns);
            for (int i = 0; i < known && (turns >>> i) != 0; i++) {
                if (((turns >>> i) & 1L) == 1L) {
                    compose(steps[i], step, spareStep);
                    System.arraycopy(spareStep, 0, step, 0, CELLS);
                }
            }
        }

        void fillStill(int[] step) {
            Arrays.fill(step, 0);
            for (int r = 0; r < size; r++) {
                step[r * WIDTH + r] = 1;
            }
        }

        boolean sameSteps(int[] a, int[] b, int power) {
            for (int r = 0; r < size; r++) {
                int from = r * WIDTH;
                for (int c = 0; c < size; c++) {
                    if (Numbers.restOf(a[from + c] - b[from + c], power) != 0) {
                        return false;
                    }
                }
                if (Numbers.restOf(a[from + MORE] - b[from + MORE], power) != 0) {
                    return false;
                }
            }
            return true;
        }

        boolean sameRows(int[] a, int[] b) {
            for (int r = 0; r < size; r++) {
                if (a[r] != b[r]) {
                    return false;
                }
            }
            return true;
        }

        private void reach(long turns) {
            int needed = Math.min(LONG_BITS - Long.numberOfLeadingZeros(turns), steps.length);
            for (int i = known; i < needed; i++) {
                compose(steps[i - 1], steps[i - 1], steps[i]);
            }
            known = Math.max(known, needed);
        }

        private void apply(int[] step, int[] row, int[] into) {
            int m = measure > 0 ? measure : 1;
            for (int r = 0; r < size; r++) {
                int sum = step[r * WIDTH + MORE];
                for (int c = 0; c < size; c++) {
                    sum += step[r * WIDTH + c] * row[c];
                }
                into[r] = sum % m;
            }
        }

        /** First the inner step, then the outer one. */
        private void compose(int[] outer, int[] inner, int[] into) {
            int m = measure > 0 ? measure : 1;
            for (int r = 0; r < size; r++) {
                int from = r * WIDTH;
                int end = outer[from + MORE];
                for (int i = 0; i < size; i++) {
                    end += outer[from + i] * inner[i * WIDTH + MORE];
                }
                into[from + MORE] = end % m;
                for (int c = 0; c < size; c++) {
                    int sum = 0;
                    for (int i = 0; i < size; i++) {
                        sum += outer[from + i] * inner[i * WIDTH + c];
                    }
                    into[from + c] = sum % m;
                }
            }
        }
    }

    /** Counts the rows that a step leaves where they are, modulo a prime's power. */
    private static final class Equations {
        private final int[][] cells = new int[MOST_SIZE][MOST_SIZE + 1];
        private int size;
        private int power;
        private int leastRow;
        private int leastColumn;

        Equations() {
        }

        long countFixed(int[] step, int ofSize, int ofPower) {
            size = ofSize;
            power = ofPower;
            load(step);
            long count = 1;
            for (int i = 0; i < size && count > 0; i++) {
                count *= clear(i);
            }
            return count;
        }

        private void load(int[] step) {
            for (int r = 0; r < size; r++) {
                for (int c = 0; c < size; c++) {
                    int still = r == c ? 1 : 0;
                    cells[r][c] = Numbers.restOf(step[r * Powers.WIDTH + c] - still, power);
                }
                cells[r][size] = Numbers.restOf(-step[r * Powers.WIDTH + Powers.MORE], power);
            }
        }

        /**
         * Frees the rows below row i of unknown i, and tells how many values unknown i has for each of the others'.
         * The cell that shares least with the power divides all the others, so that their values don't matter.
         */
        private int clear(int i) {
            int shared = findLeast(i);
            swap(i);
            int pivot = cells[i][i];
            int turned = Numbers.inverse(pivot / shared, power);
            if (turned != 0) {
                for (int c = i; c <= size; c++) {
                    cells[i][c] = Numbers.restOf((long) cells[i][c] * turned, power);
                }
                for (int r = i + 1; r < size; r++) {
                    takeOff(i, r, cells[r][i] / shared);
                }
            }
            return cells[i][size] % shared == 0 ? shared : 0;
        }

        private int findLeast(int i) {
            int least = power + 1;
            for (int r = i; r < size; r++) {
                for (int c = i; c < size; c++) {
                    int shared = (int) Numbers.commonDivisor(power, cells[r][c]);
                    if (shared < least) {
                        least = shared;
                        leastRow = r;
                        leastColumn = c;
                    }
                }
            }
            return Math.max(least, 1);
        }

        private void swap(int i) {
            int[] row = cells[i];
            cells[i] = cells[leastRow];
            cells[leastRow] = row;
            for (int r = 0; r < size; r++) {
                int cell = cells[r][i];
                cells[r][i] = cells[r][leastColumn];
                cells[r][leastColumn] = cell;
            }
        }

        private void takeOff(int i, int r, int times) {
            for (int c = i; c <= size; c++) {
                cells[r][c] = Numbers.restOf(cells[r][c] - (long) times * cells[i][c], power);
            }
        }
    }

    /** Tails, rounds and what comes back of all the plates of a mill. */
    private static final class Rounds {
        private final Powers powers;
        private final Part[] parts;
        private final Primes primes = new Primes();
        private final Primes sparePrimes = new Primes();
        private final Equations equations = new Equations();
        private final int[] step = new int[Powers.CELLS];
        private final int[] row = new int[MOST_SIZE];
        private final int[] spareRow = new int[MOST_SIZE];
        private long whole;

        Rounds(Powers powers, Part[] parts) {
            this.powers = powers;
            this.parts = parts;
        }

        void forget() {
            whole = 0;
        }

        /** The least number of turns that brings back every plate that is in a round. */
        long wholeRound() {
            if (whole > 0) {
                return whole;
            }
            primes.clear();
            long turns = 1;
            for (Part part : parts) {
                long its = part.power > 1 ? roundsModulo(part) : 1;
                long shared = Math.max(Numbers.commonDivisor(turns, its), 1);
                turns = turns / shared * its;
            }
            whole = turns;
            return whole;
        }

        /** Turns on, instead of so many turns back, where every plate is in a round. */
        long turnsAhead(long turnsBack) {
            long all = Math.max(wholeRound(), 1);
            return (all - turnsBack % all) % all;
        }

        int tailOf(int[] plate) {
            long all = wholeRound();
            copyRow(plate, row);
            copyRow(plate, spareRow);
            powers.carryRow(all, spareRow);
            int turns = 0;
            while (turns < Powers.LONGEST_TAIL && !powers.sameRows(row, spareRow)) {
                powers.carryRow(1, row);
                powers.carryRow(1, spareRow);
                turns++;
            }
            return turns;
        }

        long roundOf(int[] plate) {
            long turns = wholeRound();
            copyRow(plate, row);
            powers.carryRow(Powers.LONGEST_TAIL, row);
            for (int i = 0; i < primes.count; i++) {
                int p = Math.max(primes.prime[i], 2);
                for (int j = 0; j < LONG_BITS && turns % p == 0 && rowComesBack(turns / p); j++) {
                    turns /= p;
                }
            }
            return turns;
        }

        long turnsToLookAlike(Picture picture) {
            long turns = wholeRound();
            for (int i = 0; i < primes.count; i++) {
                int p = Math.max(primes.prime[i], 2);
                for (int j = 0; j < LONG_BITS && turns % p == 0 && picture.looksAlike(stepOf(turns / p)); j++) {
                    turns /= p;
                }
            }
            return turns;
        }

        long platesFixed(long turns) {
            int[] all = stepOf(turns);
            long count = 1;
            for (Part part : parts) {
                if (part.power > 1) {
                    count *= equations.countFixed(all, powers.size, part.power);
                }
            }
            return count;
        }

        /** Of the plates that come back after the length, less those that do after it divided by one of its primes. */
        long platesInRounds(long length) {
            if (length < 1 || wholeRound() % length != 0) {
                return 0;
            }
            sparePrimes.clear();
            for (int i = 0; i < primes.count; i++) {
                if (length % Math.max(primes.prime[i], 2) == 0) {
                    sparePrimes.add(primes.prime[i]);
                }
            }
            long count = 0;
            for (int chosen = 0; chosen < 1 << sparePrimes.count; chosen++) {
                long fixed = platesFixed(dividedBy(length, chosen));
                count += Integer.bitCount(chosen) % 2 == 0 ? fixed : -fixed;
            }
            return count;
        }

        /** So many turns as one step; the next call overwrites it. */
        int[] stepOf(long turns) {
            powers.fillStill(step);
            powers.carryStep(turns, step);
            return step;
        }

        private long dividedBy(long length, int chosen) {
            long left = length;
            for (int i = 0; i < sparePrimes.count; i++) {
                if (((chosen >>> i) & 1) == 1) {
                    left /= Math.max(sparePrimes.prime[i], 2);
                }
            }
            return left;
        }

        private long roundsModulo(Part part) {
            long turns = part.enoughTurns(powers.size);
            part.listPrimes(powers.size, sparePrimes);
            for (int i = 0; i < sparePrimes.count; i++) {
                int p = Math.max(sparePrimes.prime[i], 2);
                for (int j = 0; j < LONG_BITS && turns % p == 0 && settledComeBack(turns / p, part.power); j++) {
                    turns /= p;
                }
                if (turns % p == 0) {
                    primes.add(p);
                }
            }
            return turns;
        }

        private boolean settledComeBack(long turns, int power) {
            int[] settling = powers.settling();
            System.arraycopy(settling, 0, step, 0, Powers.CELLS);
            powers.carryStep(turns, step);
            return powers.sameSteps(step, settling, power);
        }

        private boolean rowComesBack(long turns) {
            copyRow(row, spareRow);
            powers.carryRow(turns, spareRow);
            return powers.sameRows(row, spareRow);
        }

        private static void copyRow(int[] from, int[] into) {
            System.arraycopy(from, 0, into, 0, MOST_SIZE);
        }
    }

    /** The shortest row between the points of a SINGLE mill, for a number of neighbours. */
    private static final class Net {
        /**
         * How far from 0 a number of a shortest row can be, by neighbours: for M up to 500 its squares are at most
         * 1.16 M, 1.26 M^(2/3), 1.42 M^(1/2) (Hermite's bounds), that is 577, 79, 31.
         */
        private static final int[] REACH = {0, 0, 24, 8, 5};
        private static final int TOO_LONG = 1000000;

        final int[] line = new int[MOST_NEIGHBOURS];
        int squares;
        private final int[] tried = new int[MOST_NEIGHBOURS];
        private int foundFor;

        Net() {
        }

        void forget() {
            foundFor = 0;
        }

        void find(int table, int measure, int neighbours) {
            if (foundFor == neighbours || neighbours < 0 || neighbours >= REACH.length) {
                return;
            }
            foundFor = neighbours;
            squares = TOO_LONG;
            int reach = REACH[neighbours];
            int third = neighbours > 2 ? reach : 0;
            int fourth = neighbours > 3 ? reach : 0;
            for (int a = -reach; a <= reach; a++) {
                for (int b = -third; b <= third; b++) {
                    for (int c = -fourth; c <= fourth; c++) {
                        tried[1] = a;
                        tried[2] = b;
                        tried[3] = c;
                        // A LINE's first number is no less than 0, and below M, or M taken off made it shorter.
                        tried[0] = Numbers.restOf(-(long) table * (a + table * (b + table * c)), measure);
                        take();
                    }
                }
            }
        }

        private void take() {
            int its = 0;
            for (int number : tried) {
                its += number * number;
            }
            if (its <= squares && startsAboveNought() && (its < squares || comesFirst())) {
                squares = its;
                System.arraycopy(tried, 0, line, 0, line.length);
            }
        }

        private boolean startsAboveNought() {
            for (int number : tried) {
                if (number != 0) {
                    return number > 0;
                }
            }
            return false;
        }

        private boolean comesFirst() {
            for (int i = 0; i < line.length; i++) {
                if (tried[i] != line[i]) {
                    return tried[i] < line[i];
                }
            }
            return false;
        }
    }

    /** The cells of a PICTURE. */
    private static final class Picture {
        final int[] cells = new int[MOST_PICTURE * MOST_PICTURE];
        private int measure;

        Picture() {
        }

        void clear(int newMeasure) {
            measure = Math.min(newMeasure, MOST_PICTURE);
            Arrays.fill(cells, 0);
        }

        boolean has(int x, int y) {
            return x >= 0 && x < measure && y >= 0 && y < measure;
        }

        int place(int x, int y) {
            return x * measure + y;
        }

        /** For a step that brings no two places to the same one. */
        void moveBy(int[] step, int[] spare) {
            int at = 0;
            for (int x = 0; x < measure; x++) {
                int toX = startOf(step, 0, x);
                int toY = startOf(step, Powers.WIDTH, x);
                for (int y = 0; y < measure; y++) {
                    spare[toX * measure + toY] = cells[at];
                    at++;
                    toX += step[1];
                    toX -= toX < measure ? 0 : measure;
                    toY += step[Powers.WIDTH + 1];
                    toY -= toY < measure ? 0 : measure;
                }
            }
            System.arraycopy(spare, 0, cells, 0, measure * measure);
        }

        boolean looksAlike(int[] step) {
            int at = 0;
            for (int x = 0; x < measure; x++) {
                int toX = startOf(step, 0, x);
                int toY = startOf(step, Powers.WIDTH, x);
                for (int y = 0; y < measure; y++) {
                    if (cells[toX * measure + toY] != cells[at]) {
                        return false;
                    }
                    at++;
                    toX += step[1];
                    toX -= toX < measure ? 0 : measure;
                    toY += step[Powers.WIDTH + 1];
                    toY -= toY < measure ? 0 : measure;
                }
            }
            return true;
        }

        private int startOf(int[] step, int from, int x) {
            return Numbers.restOf((long) step[from] * x + step[from + Powers.MORE], measure);
        }
    }

    /** A mill, or a place where one can stand. */
    private static final class Mill {
        // 2 * 3 * 5 * 7 * 11 is above any measure.
        private static final int MOST_PARTS = 4;

        boolean there;
        int kind;
        int measure;
        int size;
        final int[] plate = new int[MOST_SIZE];
        final Powers powers;
        final Rounds rounds;
        final Net net = new Net();
        final Picture picture = new Picture();
        private final Part[] parts;

        Mill() {
            parts = new Part[MOST_PARTS];
            for (int i = 0; i < parts.length; i++) {
                parts[i] = new Part();
            }
            powers = new Powers();
            rounds = new Rounds(powers, parts);
        }

        static boolean canBe(int kind, int measure, int size) {
            if (measure < LEAST_MEASURE || measure > MOST_MEASURE || size < 1 || size > MOST_SIZE) {
                return false;
            }
            switch (kind) {
                case FREE: return true;
                case SINGLE: return size == 1;
                case SHIFT: return true;
                case PICTURE: return size == 2 && measure <= MOST_PICTURE;
                default: return false;
            }
        }

        void open(int newKind, int newMeasure, int newSize) {
            there = true;
            kind = newKind;
            measure = newMeasure;
            size = newSize;
            Arrays.fill(plate, 0);
            findParts();
            powers.clear(measure, size);
            if (kind == SHIFT) {
                for (int r = 0; r + 1 < size; r++) {
                    powers.put(r, r + 1, 1);
                }
            }
            if (kind == PICTURE) {
                picture.clear(measure);
            }
            rounds.forget();
            net.forget();
        }

        boolean hasRest(int r) {
            return r >= 0 && r < size;
        }

        boolean canTell(int row) {
            return hasRest(row) && (kind != SHIFT || row == size - 1);
        }

        void put(int row, int column, int v) {
            powers.put(row, column, Numbers.restOf(v, measure));
            rounds.forget();
            net.forget();
        }

        /** From the upper two rows' and the lower two rows' determinants, each with the other columns' one. */
        int worth() {
            long sum = pairs(0, 1) * lowPairs(2, 3) - pairs(0, 2) * lowPairs(1, 3) + pairs(0, 3) * lowPairs(1, 2)
                    + pairs(1, 2) * lowPairs(0, 3) - pairs(1, 3) * lowPairs(0, 2) + pairs(2, 3) * lowPairs(0, 1);
            return Numbers.restOf(sum, measure);
        }

        boolean goesBack() {
            return Numbers.commonDivisor(measure, worth()) == 1;
        }

        int partCount() {
            int count = 0;
            for (Part part : parts) {
                count += part.power > 1 ? 1 : 0;
            }
            return count;
        }

        Part partAt(int k) {
            return k < 0 || k >= partCount() ? null : parts[k];
        }

        /** By Hull and Dobell's rule. */
        boolean oneRoundHoldsAll() {
            int less = powers.told(0, 0) - 1;
            if (Numbers.commonDivisor(measure, powers.told(0, Powers.MORE)) != 1) {
                return false;
            }
            for (Part part : parts) {
                int asked = part.power % 4 == 0 ? 4 : part.prime;
                if (part.power > 1 && Numbers.restOf(less, asked) != 0) {
                    return false;
                }
            }
            return true;
        }

        private void findParts() {
            int left = measure;
            int prime = 2;
            for (Part part : parts) {
                part.leave();
                while (prime <= left && left % prime != 0) {
                    prime++;
                }
                if (prime <= left) {
                    left = part.take(prime, left);
                }
            }
        }

        private long pairs(int a, int b) {
            return square(0, a) * square(1, b) - square(0, b) * square(1, a);
        }

        private long lowPairs(int a, int b) {
            return square(2, a) * square(3, b) - square(2, b) * square(3, a);
        }

        /** The table filled up to four rows as if the rests that are not there stood still. */
        private long square(int row, int column) {
            if (row < size && column < size) {
                return powers.told(row, column);
            }
            return row == column ? 1 : 0;
        }
    }

    /** What is TOLD, and the shortest RULE for it. */
    private static final class Told {
        int count;
        int length;
        /** From 1 on. */
        final int[] numbers = new int[MOST_TOLD + 1];
        private final int[] rests = new int[MOST_TOLD];
        private final int[] sums = new int[MOST_TOLD + 1];
        private final int[] pastSums = new int[MOST_TOLD + 1];
        private final int[] spareSums = new int[MOST_TOLD + 1];
        private final int[] pivots = new int[MOST_TOLD];
        private final int[][] equations = new int[MOST_TOLD][MOST_TOLD + 1];
        private int prime;
        private int pastGap;
        private int pastWrong;
        private boolean numbersFound;

        Told() {
            clear(2);
        }

        void clear(int p) {
            prime = p;
            count = 0;
            length = 0;
            pastGap = 1;
            pastWrong = 1;
            numbersFound = false;
            Arrays.fill(sums, 0);
            Arrays.fill(pastSums, 0);
            sums[0] = 1;
            pastSums[0] = 1;
        }

        boolean add(int v) {
            if (count >= rests.length) {
                return false;
            }
            rests[count] = Numbers.restOf(v, prime);
            count++;
            numbersFound = false;
            lengthen();
            return true;
        }

        /** One step of Berlekamp and Massey's way: the sums with the rests are 0 from the length on. */
        private void lengthen() {
            int last = count - 1;
            long sum = 0;
            for (int i = 0; i <= length && i <= last; i++) {
                sum += (long) sums[i] * rests[last - i];
            }
            int wrong = Numbers.restOf(sum, prime);
            if (wrong == 0) {
                pastGap++;
                return;
            }
            System.arraycopy(sums, 0, spareSums, 0, sums.length);
            long times = (long) wrong * Numbers.inverse(pastWrong, prime);
            for (int i = 0; i + pastGap < sums.length; i++) {
                sums[i + pastGap] = Numbers.restOf(sums[i + pastGap] - times * pastSums[i], prime);
            }
            pastGap++;
            if (2 * length <= last) {
                length = count - length;
                System.arraycopy(spareSums, 0, pastSums, 0, sums.length);
                pastWrong = wrong;
                pastGap = 1;
            }
        }

        /**
         * Column c of the equations is for number length - c: so a number is bound, if it is, by those ahead of it
         * in the rule alone, and the least rule has 0 for each number that is not bound.
         */
        void findNumbers() {
            if (numbersFound) {
                return;
            }
            numbersFound = true;
            for (int r = 0; r + length < count; r++) {
                System.arraycopy(rests, r, equations[r], 0, length + 1);
            }
            int used = 0;
            for (int c = 0; c < length; c++) {
                pivots[c] = findRow(used, c);
                if (pivots[c] != NONE) {
                    swap(used, pivots[c]);
                    clearColumn(used, c);
                    pivots[c] = used;
                    used++;
                }
            }
            for (int c = 0; c < length; c++) {
                numbers[length - c] = pivots[c] == NONE ? 0 : equations[pivots[c]][length];
            }
        }

        private int findRow(int from, int column) {
            for (int r = from; r + length < count; r++) {
                if (equations[r][column] != 0) {
                    return r;
                }
            }
            return NONE;
        }

        private void swap(int a, int b) {
            int[] row = equations[a];
            equations[a] = equations[b];
            equations[b] = row;
        }

        private void clearColumn(int row, int column) {
            int turned = Numbers.inverse(equations[row][column], prime);
            for (int c = column; c <= length; c++) {
                equations[row][c] = Numbers.restOf((long) equations[row][c] * turned, prime);
            }
            for (int r = 0; r + length < count; r++) {
                long times = r == row ? 0 : equations[r][column];
                for (int c = column; c <= length && times != 0; c++) {
                    equations[r][c] = Numbers.restOf(equations[r][c] - times * equations[row][c], prime);
                }
            }
        }
    }
}
