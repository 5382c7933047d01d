/** The bounds of orders that fit what was seen: promises 41 to 45. */
final class SeenBounds {
    private static final int FAR = Made.FAR;
    private static final int DEEP = Made.DEEP;

    /** A question about a slot's row and a box. */
    private interface Asked {
        long of(PassedPenance x, int slot, int box);
    }

    private final Sentences s;

    SeenBounds(Sentences s) {
        this.s = s;
    }

    void run() {
        fits();
        fitsRefused();
        firsts();
        may();
        ask();
        leaves();
    }

    private static PassedPenance seen(long... numbers) {
        PassedPenance x = Made.sample();
        Check.lay(x, 0, numbers);
        return x;
    }

    private void fits() {
        s.of(41, "FITS: a SLOT's row, two numbers each: a PERSON of a BOX, the PENANCE he was seen to get (NONE: "
                + "nothing): orders of those of the BOX by which all is so: how many.");
        s.dueAll("fits", new long[] {seen().fits(0, 0), seen(0, 2).fits(0, 0), seen(0, 2, 1, 0).fits(0, 0),
            seen(2, 2, 0, 1).fits(0, 0), seen(0, 0).fits(0, 0), seen(0, -1).fits(0, 0), seen(0, 2, 0, 1).fits(0, 0)},
                6, 4, 2, 1, 0, 0, 0);
        s.dueAll("box 1", new long[] {seen().fits(0, 1), seen(3, -1).fits(0, 1), seen(3, 0).fits(0, 1), seen(3, 2).fits(0, 1)},
                1, 1, 0, 0);
        long[] often = new long[60];
        for (int i = 1; i < 60; i += 2) {
            often[i] = 2;
        }
        s.due("thirty times the same", seen(often).fits(0, 0), 4);
        often[59] = 1;
        s.due("but for the last", seen(often).fits(0, 0), 0);
        s.dueAll("seven", new long[] {seven().fits(0, 0), seven().fits(1, 0), seven().fits(2, 0)}, 5040, 720, 4320);
        s.due("nobody", nobody().fits(0, 0), 1);
    }

    private void refusedBy(Asked call) {
        s.refused(-2, Made::busy, x -> call.of(x, -1, 0), x -> call.of(x, 4, 0), x -> call.of(x, 1, -1), x -> call.of(x, 1, 2),
                x -> call.of(x, FAR, 0), x -> call.of(x, DEEP, 0), x -> call.of(x, 1, FAR), x -> call.of(x, 1, DEEP),
                x -> call.of(x, 3, 2), x -> call.of(x, 3, -1));
        s.refused(-6, Made::busy, x -> call.of(x, 3, 0), x -> call.of(x, 3, 1));
        s.noChurch(x -> call.of(x, 0, 0));
        // Three numbers; those of another box; an empty row and a good one are none of it.
        s.refused(-2, Made::busy, x -> call.of(x, 0, 0), x -> call.of(x, 1, 1));
        long[][] rows = {{0}, {0, 2, 0}, {0, 3}, {0, -2}, {4, 0}, {-1, 0}, {3, 0}, {3, -1}, {0, 2, 3, -1}, {0, 2, 0, 3},
            {0, 256}, {256, 0}, new long[59]};
        for (long[] row : rows) {
            s.refused(-2, () -> seen(row), x -> call.of(x, 0, 0));
        }
        for (long far : new long[] {1L << 32, Long.MIN_VALUE, Long.MAX_VALUE, (1L << 32) - 1}) {
            for (int i = 0; i < 2; i++) {
                PassedPenance x = Made.sample();
                x.row(0, 3, 2);
                x.write(0, 0, 0);
                x.write(0, 1, 2);
                x.write(0, i, far);
                s.due("number " + i + " is " + far, call.of(x, 0, 0), -2);
            }
        }
    }

    private void fitsRefused() {
        s.of(41, "-2: there is no such SLOT, BOX, a number is none such (asked last), not two each");
        refusedBy((x, slot, box) -> x.fits(slot, box));
        s.refused(6, Made::busy, x -> x.fits(2, 0));
        s.refused(1, Made::busy, x -> x.fits(2, 1));
        s.refused(4, Made::busy, x -> x.fits(1, 0));
        s.of(41, "-6: it has nothing.");
        s.refused(-6, Made::busy, x -> x.fits(3, 0), x -> x.fits(3, 1));
        s.refused(-6, Made::sample, x -> x.fits(0, 0), x -> x.fits(1, 0), x -> x.fits(2, 1));
    }

    /** Slot 0 has an empty row; by slot 1 the last got nothing, by slot 2 he did not. */
    private static PassedPenance seven() {
        PassedPenance x = Made.seven();
        Check.lay(x, 0);
        Check.lay(x, 1, 6, -1);
        Check.lay(x, 2, 6, 0);
        return x;
    }

    private void firsts() {
        s.of(42, "PERSONS who are first by some of these, as bits.");
        s.dueAll("firsts", new long[] {seen().firsts(0, 0), seen(0, 2, 1, 0).firsts(0, 0), seen(2, 2, 0, 1).firsts(0, 0),
            seen(0, 0).firsts(0, 0), seen(3, -1).firsts(0, 1), seen(3, 0).firsts(0, 1)}, 7, 5, 4, 0, 8, 0);
        PassedPenance seven = seven();
        s.dueAll("seven", new long[] {seven.firsts(0, 0), seven.firsts(1, 0), seven.firsts(2, 0)}, 127, 64, 63);
        s.of(42, "-2, -6 likewise.");
        refusedBy((x, slot, box) -> x.firsts(slot, box));
    }

    private void may() {
        PassedPenance seven = seven();
        s.of(43, "PENANCES (bits) that a PERSON may get by these; bit 8: nothing.");
        s.dueAll("may", new long[] {seen().may(0, 0, 0), seen().may(0, 0, 1), seen().may(0, 0, 2), seen(0, 2).may(0, 0, 0),
            seen(0, 0).may(0, 0, 1), seen().may(0, 1, 3), seen(3, 0).may(0, 1, 3)}, 6, 5, 7, 4, 0, 256, 0);
        s.dueAll("seven", new long[] {seven.may(0, 0, 0), seven.may(0, 0, 6), seven.may(1, 0, 6), seven.may(1, 0, 0)},
                257, 257, 256, 1);
        PassedPenance full = Made.full();
        full.row(0, 0, 0);
        s.dueAll("the eighth", new long[] {full.may(0, 2, 2), full.may(0, 2, 5), full.may(0, 0, 0)}, 160, 132, 328);
        s.of(43, "-2, -6 likewise, he is not of the BOX.");
        refusedBy((x, slot, box) -> x.may(slot, box, 0 <= box && box < 2 ? 3 * box : 0));
        s.refused(-2, Made::busy, x -> x.may(1, 0, 3), x -> x.may(2, 1, 0), x -> x.may(2, 1, 2), x -> x.may(1, 0, 4),
                x -> x.may(1, 0, -1), x -> x.may(1, 0, FAR), x -> x.may(1, 0, DEEP), x -> x.may(3, 0, 3), x -> x.may(3, 0, 4));
        s.refused(7, Made::busy, x -> x.may(1, 0, 2));
        s.refused(256, Made::busy, x -> x.may(2, 1, 3));
    }

    /** Each gets what is like that of another one: no answer tells anything. */
    private static PassedPenance alike() {
        PassedPenance x = Check.told(Made.SEVEN + "left 0 0;");
        Check.lay(x, 0);
        return x;
    }

    private static PassedPenance nobody() {
        PassedPenance x = Made.nobody();
        x.row(0, 0, 0);
        return x;
    }

    private void ask() {
        s.of(44, "The PERSON of the BOX of whom it tells most to know what he got (at worst by what it is, fewest "
                + "orders left), if fewer than now, the first of several.");
        s.dueAll("ask", new long[] {seen().ask(0, 0), seen(0, 2).ask(0, 0), seen(0, 2, 1, 0).ask(0, 0)}, 2, 1, 2);
        s.dueAll("first of several", new long[] {seven().ask(0, 0), seven().ask(2, 0)}, 0, 0);
        PassedPenance known = Made.seven();
        Check.lay(known, 0, 0, 0);
        s.due("of 0 it is known", known.ask(0, 0), 1);
        s.of(44, "NONE: none");
        s.dueAll("no fewer by any", new long[] {seven().ask(1, 0), alike().ask(0, 0), seen(2, 2, 0, 1).ask(0, 0),
            seen(0, 0).ask(0, 0), seen().ask(0, 1), nobody().ask(0, 0)}, -1, -1, -1, -1, -1, -1);
        s.of(44, "-2, -6 likewise.");
        refusedBy((x, slot, box) -> x.ask(slot, box));
    }

    private void leaves() {
        PassedPenance seven = seven();
        s.of(45, "How many it leaves at worst (as now without).");
        s.dueAll("leaves", new long[] {seen().leaves(0, 0), seen(0, 2).leaves(0, 0), seen(0, 2, 1, 0).leaves(0, 0),
            seven.leaves(0, 0), seven.leaves(2, 0)}, 2, 2, 1, 4320, 3600);
        s.dueAll("as now without", new long[] {seven.leaves(1, 0), alike().leaves(0, 0), seen(2, 2, 0, 1).leaves(0, 0),
            seen(0, 0).leaves(0, 0), seen().leaves(0, 1), nobody().leaves(0, 0)}, 720, 5040, 1, 0, 1, 1);
        s.of(45, "-2, -6 likewise.");
        refusedBy((x, slot, box) -> x.leaves(slot, box));
    }
}
