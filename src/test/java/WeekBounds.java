import java.math.BigInteger;

/** The bounds of weeks drawn: Terms VI, and promises 58 to 60. */
final class WeekBounds {
    private static final int FAR = Made.FAR;
    private static final int DEEP = Made.DEEP;
    private static final int MOST_SEED = 2_000_000_000;
    private static final int[] SEEDS = {0, 1, 2, 65535, 65536, 12345, 1103515245, 1999999999, MOST_SEED};

    private final Sentences s;

    WeekBounds(Sentences s) {
        this.s = s;
    }

    void run() {
        draws();
        week();
        drawn();
        fate();
        luck();
        luckBounds();
    }

    /** The first draws of a seed, by numbers that can't wrap around. */
    private static int[] drawsOf(int seed) {
        BigInteger x = BigInteger.valueOf(seed);
        int[] draws = new int[7];
        for (int i = 0; i < draws.length; i++) {
            x = x.multiply(new BigInteger("1103515245")).add(new BigInteger("12345")).mod(new BigInteger("2147483648"));
            draws[i] = x.divide(new BigInteger("65536")).mod(new BigInteger("100")).intValue();
        }
        return draws;
    }

    private static int comers(int[] draws, int persons, int odds) {
        int bits = 0;
        for (int p = 0; p < persons; p++) {
            bits |= draws[p] < odds ? 1 << p : 0;
        }
        return bits;
    }

    private static PassedPenance withOdds(int odds) {
        return Check.told(Made.SEVEN.replace("odds 0", "odds " + odds));
    }

    private void draws() {
        s.of("VI", "DRAWS: x becomes (1103515245 x + 12345) modulo 2,147,483,648 (at first it is the seed); a draw: "
                + "x / 65536, cut, modulo 100.");
        for (int seed : SEEDS) {
            int[] draws = drawsOf(seed);
            for (int i = 0; i < 7; i++) {
                // He comes by odds that are just above his draw, not by the draw itself.
                int bit = 1 << i;
                s.due("draw " + i + " of " + seed, withOdds(draws[i]).drawn(seed, 0) & bit, 0);
                s.due("draw " + i + " of " + seed, withOdds(draws[i] + 1).drawn(seed, 0) & bit, bit);
            }
        }
        // By hand: 12345 / 65536 is 0; 1103527590 / 65536 is 16838, cut.
        s.dueAll("the first draws of 0, 1", new long[] {drawsOf(0)[0], drawsOf(1)[0]}, 0, 38);
    }

    private void week() {
        s.of("VI", "WEEK: for each PERSON (by numbers) a draw: below odds he comes; those who come alone are the QUEUES.");
        for (int odds : new int[] {0, 1, 50, 99, 100}) {
            PassedPenance x = withOdds(odds);
            for (int seed : SEEDS) {
                s.due("who comes by odds " + odds + " from " + seed, x.drawn(seed, 0), comers(drawsOf(seed), 7, odds));
            }
        }
        PassedPenance x = Made.sample();
        // Seed 0: 0 and 3 come. Seed 1: 0, 2, 3. Seed 2: all.
        s.dueAll("0 alone in box 0", new long[] {x.drawn(0, 0), x.fate(0, 0), x.fate(0, 3)}, 9, 2, -1);
        s.dueAll("2 behind 0", new long[] {x.drawn(1, 0), x.fate(1, 0), x.fate(1, 2)}, 13, 2, 0);
        s.dueAll("all", new long[] {x.drawn(2, 0), x.fate(2, 0), x.fate(2, 1), x.fate(2, 2)}, 15, 1, 2, 0);
    }

    private void drawn() {
        s.of(58, "WEEK drawn (VI) from a seed (0 .. 2,000,000,000), what 0: PERSONS who come, as bits, 1: COSTS, "
                + "together, of what they get.");
        PassedPenance x = Made.sample();
        s.dueAll("drawn", new long[] {x.drawn(0, 0), x.drawn(0, 1), x.drawn(1, 1), x.drawn(2, 1), x.drawn(3, 0), x.drawn(3, 1),
            x.drawn(MOST_SEED, 0), x.drawn(MOST_SEED, 1)}, 9, 2, 11, 37, 11, 28, 15, 37);
        s.dueAll("none, all", new long[] {withOdds(0).drawn(0, 0), withOdds(0).drawn(0, 1), withOdds(100).drawn(0, 0),
            withOdds(100).drawn(0, 1)}, 0, 0, 127, 12);
        PassedPenance acted = Made.busy();
        s.dueAll("acts do not count", new long[] {acted.drawn(2, 0), acted.drawn(2, 1)}, 15, 37);
        s.of(58, "-2: there are none such, no CHURCH.");
        s.refused(-2, Made::busy, y -> y.drawn(-1, 0), y -> y.drawn(MOST_SEED + 1, 0), y -> y.drawn(FAR, 1),
                y -> y.drawn(DEEP, 1), y -> y.drawn(0, 2), y -> y.drawn(0, -1), y -> y.drawn(0, FAR), y -> y.drawn(0, DEEP));
        s.refused(0, Made::nobody, y -> y.drawn(0, 0), y -> y.drawn(0, 1), y -> y.drawn(MOST_SEED, 0));
        s.refused(-2, Made::nobody, y -> y.drawn(0, 2), y -> y.drawn(-1, 0));
        s.noChurch(y -> y.drawn(0, 0), y -> y.drawn(0, 1));
    }

    private void fate() {
        s.of(59, "What a PERSON gets then.");
        PassedPenance x = Made.sample();
        s.dueAll("fate", new long[] {x.fate(0, 0), x.fate(MOST_SEED, 0), x.fate(MOST_SEED, 1)}, 2, 1, 2);
        s.refused(3, Made::full, y -> y.fate(0, 6));
        s.of(59, "NONE: nothing, he does not come");
        // By seed 0 person 3 comes to a box with nothing; 1 and 2 do not come.
        s.dueAll("nothing", new long[] {x.drawn(0, 0), x.fate(0, 3), x.fate(0, 1), x.fate(0, 2)}, 9, -1, -1, -1);
        s.of(59, "-2: there are none such.");
        s.refused(-2, Made::busy, y -> y.fate(-1, 0), y -> y.fate(MOST_SEED + 1, 0), y -> y.fate(FAR, 0), y -> y.fate(DEEP, 0),
                y -> y.fate(0, 4), y -> y.fate(0, -1), y -> y.fate(0, FAR), y -> y.fate(0, DEEP));
        s.refused(-2, Made::full, y -> y.fate(0, 7));
        s.refused(-2, Made::nobody, y -> y.fate(0, 0));
        s.noChurch(y -> y.fate(0, 0));
    }

    /** One person; his own one costs 5, what lies there at first costs so much. */
    private static PassedPenance one(int odds, int cost) {
        return Check.told("church hours 1 boxes 1 odds " + odds + ";penance days 5;penance days " + cost
                + ";person sin 0 at 0 bears 1;left 0 1;");
    }

    private void luck() {
        s.of(60, "Of n (1 .. 20) such from seeds, the seed and 1, .., in how many a PERSON has no more COST than of "
                + "his own one (0, if he does not come).");
        s.dueAll("less, as much, more by one", new long[] {one(100, 4).luck(0, 20, 0), one(100, 5).luck(0, 20, 0),
            one(100, 6).luck(0, 20, 0)}, 20, 20, 0);
        s.due("he does not come", one(0, 99).luck(0, 20, 0), 20);
        for (int seed : new int[] {0, 7, MOST_SEED}) {
            PassedPenance x = one(50, 6);
            for (int n = 1; n <= 20; n++) {
                int due = 0;
                for (int i = 0; i < n; i++) {
                    due += drawsOf(seed + i)[0] < 50 ? 0 : 1;
                }
                s.due("luck(" + seed + ", " + n + ", 0)", x.luck(seed, n, 0), due);
            }
        }
    }

    private void luckBounds() {
        s.of(60, "n (1 .. 20)");
        PassedPenance x = one(0, 9);
        s.dueAll("bounds", new long[] {x.luck(0, 1, 0), x.luck(0, 20, 0), x.luck(MOST_SEED, 20, 0)}, 1, 20, 20);
        s.refused(-2, () -> one(0, 9), y -> y.luck(0, 0, 0), y -> y.luck(0, 21, 0), y -> y.luck(0, -1, 0),
                y -> y.luck(0, FAR, 0), y -> y.luck(0, DEEP, 0));
        s.of(60, "-2: there are none such.");
        s.refused(-2, Made::busy, y -> y.luck(-1, 1, 0), y -> y.luck(MOST_SEED + 1, 1, 0), y -> y.luck(FAR, 1, 0),
                y -> y.luck(DEEP, 1, 0), y -> y.luck(0, 1, 4), y -> y.luck(0, 1, -1), y -> y.luck(0, 1, FAR),
                y -> y.luck(0, 1, DEEP));
        s.refused(-2, Made::full, y -> y.luck(0, 1, 7));
        s.refused(-2, Made::nobody, y -> y.luck(0, 1, 0));
        s.noChurch(y -> y.luck(0, 1, 0));
    }
}
