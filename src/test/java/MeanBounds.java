/** The bounds of means, boxes chosen and how many to let pass: Terms V, FRACTIONS, and promises 46 to 49. */
final class MeanBounds {
    private static final int FAR = Made.FAR;
    private static final int DEEP = Made.DEEP;

    /** A question about a slot's row and a person. */
    private interface Asked {
        long of(PassedPenance x, int slot, int person);
    }

    private final Sentences s;

    MeanBounds(Sentences s) {
        this.s = s;
    }

    void run() {
        mean();
        fractions();
        meanRefused();
        choose();
        passingOn();
        pass();
        takes();
    }

    private static PassedPenance often(long... numbers) {
        PassedPenance x = Made.two();
        Check.lay(x, 0, numbers);
        return x;
    }

    private void mean() {
        s.of(46, "MEAN: a SLOT's row, as many numbers as PENANCES: how often (0 .. 9 each, not all 0) each lies in a "
                + "box: the mean COST for a PERSON who goes to it, above (what 0), below (1).");
        long[][] rows = {{1, 1}, {9, 9}, {0, 9}, {9, 0}, {0, 1}, {1, 0}, {9, 1}, {1, 9}, {3, 6}};
        long[][] means = {{1, 2}, {1, 2}, {1, 1}, {0, 1}, {1, 1}, {0, 1}, {1, 10}, {9, 10}, {2, 3}};
        for (int i = 0; i < rows.length; i++) {
            PassedPenance x = often(rows[i]);
            s.dueAll("row " + i, new long[] {x.mean(0, 0, 0), x.mean(0, 0, 1)}, means[i]);
        }
        PassedPenance full = Made.full();
        Check.lay(full, 2, 0, 0, 0, 0, 0, 0, 0, 9);
        Check.lay(full, 3, 9, 0, 0, 0, 0, 0, 0, 9);
        s.dueAll("eight", new long[] {full.mean(2, 6, 0), full.mean(2, 6, 1), full.mean(3, 6, 0), full.mean(3, 6, 1),
            full.mean(3, 0, 0), full.mean(3, 0, 1)}, 1025, 1, 1095, 2, 927, 2);
        PassedPenance one = Check.told(Made.SEVEN);
        Check.lay(one, 0, 9);
        s.dueAll("one", new long[] {one.mean(0, 6, 0), one.mean(0, 6, 1)}, 2, 1);
    }

    private void fractions() {
        s.of("VI", "FRACTIONS are told in lowest terms (0 / 1).");
        s.dueAll("mean of 6 / 9", new long[] {often(3, 6).mean(0, 0, 0), often(3, 6).mean(0, 0, 1)}, 2, 3);
        s.dueAll("mean of 0 / 9", new long[] {often(9, 0).mean(0, 0, 0), often(9, 0).mean(0, 0, 1)}, 0, 1);
        s.dueAll("mean of 8 / 9", new long[] {often(1, 8).mean(0, 0, 0), often(1, 8).mean(0, 0, 1)}, 8, 9);
        s.dueAll("pass of 0 / 81", new long[] {often(9, 0).pass(0, 0, 2, 0), often(9, 0).pass(0, 0, 2, 1)}, 0, 1);
    }

    /** What mean(), pass() and takes() refuse alike. */
    private void refusedBy(Asked call) {
        s.refused(-2, Made::busy, x -> call.of(x, -1, 0), x -> call.of(x, 4, 0), x -> call.of(x, 0, 4), x -> call.of(x, 0, -1),
                x -> call.of(x, FAR, 0), x -> call.of(x, DEEP, 0), x -> call.of(x, 0, FAR), x -> call.of(x, 0, DEEP),
                x -> call.of(x, 3, 4), x -> call.of(x, 3, -1));
        s.refused(-6, Made::busy, x -> call.of(x, 3, 0), x -> call.of(x, 3, 3));
        s.noChurch(x -> call.of(x, 0, 0));
        long[][] rows = {{}, {1}, {1, 1, 1}, {1, 1, 0}, {0, 0}, {10, 1}, {1, 10}, {-1, 1}, {1, -1}, {-1, 2}, {256, 1},
            new long[60]};
        for (long[] row : rows) {
            s.refused(-2, () -> often(row), x -> call.of(x, 0, 0));
        }
        for (long far : new long[] {1L << 32, 1 + (1L << 32), Long.MIN_VALUE, Long.MAX_VALUE}) {
            PassedPenance x = Made.two();
            x.row(0, 3, 2);
            x.write(0, 1, 1);
            x.write(0, 0, far);
            s.due("a number is " + far, call.of(x, 0, 0), -2);
        }
        PassedPenance full = Made.full();
        Check.lay(full, 0, 1, 1, 1, 1, 1, 1, 1, 1);
        Check.lay(full, 1, 1, 1, 1, 1, 1, 1, 1);
        Check.lay(full, 2, 1, 1, 1, 1, 1, 1, 1, 1, 1);
        s.dueAll("eight numbers", new long[] {Long.signum(call.of(full, 0, 6)), call.of(full, 1, 6), call.of(full, 2, 6),
            call.of(full, 0, 7)}, 1, -2, -2, -2);
    }

    private void meanRefused() {
        s.of(46, "-2: there are none such, a number is none such (asked last), not so many, all 0");
        refusedBy((x, slot, person) -> x.mean(slot, person, 0));
        refusedBy((x, slot, person) -> x.mean(slot, person, 1));
        s.refused(-2, Made::busy, x -> x.mean(0, 0, 2), x -> x.mean(0, 0, -1), x -> x.mean(0, 0, FAR), x -> x.mean(0, 0, DEEP),
                x -> x.mean(3, 0, 2), x -> x.mean(3, 0, -1));
        s.refused(26, Made::busy, x -> x.mean(0, 0, 0));
        s.refused(3, Made::busy, x -> x.mean(0, 0, 1));
        s.of(46, "-6: it has nothing.");
        s.refused(-6, Made::busy, x -> x.mean(3, 0, 0), x -> x.mean(3, 3, 1));
        s.refused(-6, Made::two, x -> x.mean(0, 0, 0), x -> x.mean(3, 0, 1));
    }

    private void choose() {
        s.of(47, "CHOOSE: the SLOT, of those whose row is such a one, with the least MEAN for a PERSON, the first of "
                + "several.");
        PassedPenance x = Made.two();
        Check.lay(x, 3, 0, 9);
        s.due("the last alone", x.choose(0), 3);
        Check.lay(x, 2, 1, 8);
        s.due("a lesser one", x.choose(0), 2);
        Check.lay(x, 1, 1, 9);
        s.due("a greater one by 1 / 90", x.choose(0), 2);
        Check.lay(x, 1, 1, 8);
        s.due("one alike", x.choose(0), 1);
        Check.lay(x, 3, 9, 0);
        Check.lay(x, 0, 10, 0);
        s.due("one that is none such", x.choose(0), 3);
        Check.lay(x, 0, 1, 0, 0);
        s.due("one that is too long", x.choose(0), 3);
        Check.lay(x, 0, 1, 0);
        s.due("0 / 1 and 0 / 9", x.choose(0), 0);
        PassedPenance once = Made.apart(new long[][] {{0, 10, 4}}, 0);
        Check.lay(once, 0, 1, 1, 0);
        Check.lay(once, 1, 0, 0, 1);
        s.due("who can't let one pass", once.choose(0), 1);
        s.of(47, "NONE: none is");
        s.refused(-1, Made::two, y -> y.choose(0));
        s.refused(-1, () -> often(0, 0), y -> y.choose(0));
        s.refused(-1, () -> often(1), y -> y.choose(0));
        s.refused(0, () -> often(0, 1), y -> y.choose(0));
        s.of(47, "-2: there is none such.");
        s.refused(-2, () -> often(0, 1), y -> y.choose(1), y -> y.choose(-1), y -> y.choose(FAR), y -> y.choose(DEEP));
        s.refused(-2, Made::two, y -> y.choose(1), y -> y.choose(-1));
        s.refused(-2, Made::full, y -> y.choose(7));
        s.noChurch(y -> y.choose(0));
    }

    /** pass() above, below of one whom penances cost so much, by how often each lies there. */
    private void passDue(String what, long[] costs, long[] often, int n, long above, long below) {
        PassedPenance x = Made.apart(new long[][] {costs}, 0);
        Check.lay(x, 0, often);
        s.dueAll(what + ", " + n, new long[] {x.pass(0, 0, n, 0), x.pass(0, 0, n, 1)}, above, below);
    }

    private void passingOn() {
        s.of("V", "PASS: of the last one he has what it is.");
        passDue("dear ones too", new long[] {0, 999}, new long[] {0, 9}, 1, 999, 1);
        passDue("all are dear", new long[] {0, 999}, new long[] {0, 9}, 5, 999, 1);
        passDue("one is none", new long[] {0, 999}, new long[] {9, 9}, 1, 999, 2);
        s.of("V", "Of another one he has it, if its COST is not above the MEAN of what comes of waiting, else he waits.");
        // 0, 1, 2 have the mean 1: 1 is not above, 2 waits for it. Then 2 / 3: 1 waits, too.
        passDue("three", new long[] {0, 1, 2}, new long[] {1, 1, 1}, 2, 2, 3);
        passDue("three", new long[] {0, 1, 2}, new long[] {1, 1, 1}, 3, 4, 9);
        passDue("alike", new long[] {4, 4, 4}, new long[] {1, 2, 3}, 5, 4, 1);
        PassedPenance x = Made.apart(new long[][] {{0, 1, 2}}, 0);
        Check.lay(x, 0, 1, 1, 1);
        s.dueAll("what he has", new long[] {x.takes(0, 0, 2), x.takes(0, 0, 3)}, 1, 0);
    }

    private void pass() {
        s.of(48, "PASS (V): the mean COST for a PERSON, if he may see n (1 .. 5) one behind the other, by a SLOT's "
                + "row as in mean(), and let all but the last one pass, above (what 0), below (1).");
        PassedPenance x = often(1, 1);
        for (int n = 1; n <= 5; n++) {
            s.dueAll("half of them, " + n, new long[] {x.pass(0, 0, n, 0), x.pass(0, 0, n, 1)}, 1, 1L << n);
        }
        // 999 x (63 / 64) five times over: numbers above an int.
        passDue("great ones", new long[] {0, 999, 999, 999, 999, 999, 999, 999}, new long[] {1, 9, 9, 9, 9, 9, 9, 9}, 5,
                999L * 992436543, 1L << 30);
        s.refused(-2, () -> often(1, 1), y -> y.pass(0, 0, 0, 0), y -> y.pass(0, 0, 6, 0), y -> y.pass(0, 0, -1, 1),
                y -> y.pass(0, 0, FAR, 0), y -> y.pass(0, 0, DEEP, 0), y -> y.pass(0, 0, 1, 2), y -> y.pass(0, 0, 1, -1),
                y -> y.pass(0, 0, 5, FAR), y -> y.pass(0, 0, 5, DEEP));
        s.of(48, "-2, -6 as mean(), no such n.");
        refusedBy((y, slot, person) -> y.pass(slot, person, 1, 0));
        refusedBy((y, slot, person) -> y.pass(slot, person, 5, 1));
        s.refused(-2, Made::two, y -> y.pass(0, 0, 0, 0), y -> y.pass(0, 0, 6, 0), y -> y.pass(0, 0, 1, 2));
        s.refused(-6, Made::two, y -> y.pass(0, 0, 1, 0), y -> y.pass(3, 0, 5, 1));
    }

    private void takes() {
        s.of(49, "The greatest number that a COST of the first he sees may be so that he has it (V).");
        long[][] costs = {{0, 2}, {0, 3}, {1, 2}, {4, 4}, {0, 999}};
        long[] due = {1, 1, 1, 4, 499};
        for (int i = 0; i < costs.length; i++) {
            PassedPenance x = Made.apart(new long[][] {costs[i]}, 0);
            Check.lay(x, 0, 1, 1);
            s.due("takes of two, costs " + i, x.takes(0, 0, 2), due[i]);
        }
        PassedPenance x = Made.apart(new long[][] {{0, 999}}, 0);
        Check.lay(x, 0, 1, 1);
        s.dueAll("takes", new long[] {x.takes(0, 0, 2), x.takes(0, 0, 3), x.takes(0, 0, 4), x.takes(0, 0, 5)},
                499, 249, 124, 62);
        s.of(49, "1,000,000: any (n 1)");
        s.dueAll("any", new long[] {x.takes(0, 0, 1), often(1, 0).takes(0, 0, 1)}, 1000000, 1000000);
        refusedBy((y, slot, person) -> y.takes(slot, person, 1));
        refusedBy((y, slot, person) -> y.takes(slot, person, 5));
        s.of(49, "-2, -6 likewise.");
        s.refused(-2, () -> often(1, 1), y -> y.takes(0, 0, 0), y -> y.takes(0, 0, 6), y -> y.takes(0, 0, FAR),
                y -> y.takes(0, 0, DEEP));
        s.refused(-2, Made::two, y -> y.takes(0, 0, 0), y -> y.takes(0, 0, 6));
    }
}
