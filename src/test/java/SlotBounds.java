/** The bounds of slots and their rows: SLOTS, and promises 66 to 68. */
final class SlotBounds {
    private static final int FAR = Made.FAR;
    private static final int DEEP = Made.DEEP;
    private static final int OTHER = 99;

    private final Sentences s;

    SlotBounds(Sentences s) {
        this.s = s;
    }

    void run() {
        slots();
        row();
        rowRefused();
        write();
        paste();
        pasteRefused();
    }

    /** A number of a row, in a church of TWO: 0 .. 9, -1, or OTHER. Slot 3 is used for it. */
    private static long valueOf(PassedPenance x, int slot, int i, int width) {
        x.row(3, width, 2);
        x.write(3, 1, 1);
        x.paste(slot, i, 3, 0, 1);
        long below = x.mean(3, 0, 1);
        if (below > 0) {
            return below - 1;
        }
        x.paste(slot, i, 3, 1, 1);
        x.write(3, 0, 0);
        return x.fits(3, 0) == 1 ? -1 : OTHER;
    }

    private void slots() {
        s.of("SLOTS", "0 .. 3 have rows of numbers of 1, 2, 4 or 8 bytes (WIDTH 0 .. 3), at most 60, or nothing.");
        for (int width = 0; width < 4; width++) {
            PassedPenance x = Made.two();
            x.row(0, width, 60);
            int bits = 8 << width;
            // The highest bit of the width is kept, the one above it is not.
            x.write(0, 0, 3 + (1L << bits - 1));
            x.write(0, 59, bits == 64 ? 3 : 3 + (1L << bits));
            s.dueAll("width " + width, new long[] {valueOf(x, 0, 0, width), valueOf(x, 0, 59, width)}, OTHER, 3);
        }
        PassedPenance none = new PassedPenance();
        for (int slot = 0; slot < 4; slot++) {
            s.dueAll("slot " + slot, new long[] {none.write(slot, 0, 0), none.row(slot, 3, 60), none.write(slot, 59, 0),
                none.write(slot, 60, 0)}, -6, 0, 0, -7);
        }
        s.dueAll("no other slots", new long[] {none.row(4, 3, 60), none.row(-1, 3, 60), none.count(8)}, -2, -2, 4);
    }

    private void row() {
        s.of(66, "A SLOT (0 .. 3) has a row of n numbers of a WIDTH, all 0 (in place of another one): 0.");
        for (int slot = 0; slot < 4; slot++) {
            for (int width = 0; width < 4; width++) {
                for (int n : new int[] {0, 1, 59, 60}) {
                    PassedPenance x = new PassedPenance();
                    s.dueAll("row(" + slot + ", " + width + ", " + n + ")", new long[] {x.row(slot, width, n),
                        Made.lengthOf(x, slot), x.count(8)}, 0, n, 1);
                }
            }
        }
        PassedPenance x = Made.two();
        Check.lay(x, 0, 5, 5, 5);
        s.dueAll("in place of it", new long[] {x.row(0, 1, 3), valueOf(x, 0, 0, 1), valueOf(x, 0, 1, 1), valueOf(x, 0, 2, 1)},
                0, 0, 0, 0);
        Check.lay(x, 0, 5, 5, 5);
        s.dueAll("by a shorter one and a longer one", new long[] {x.row(0, 1, 1), x.row(0, 1, 3), valueOf(x, 0, 0, 1),
            valueOf(x, 0, 1, 1), valueOf(x, 0, 2, 1)}, 0, 0, 0, 0, 0);
        Check.lay(x, 0, 5);
        s.dueAll("by one of another width", new long[] {x.row(0, 2, 1), x.row(1, 1, 1), x.paste(0, 0, 1, 0, 1),
            valueOf(x, 0, 0, 2)}, 0, 0, -8, 0);
        PassedPenance full = new PassedPenance();
        full.row(2, 0, 60);
        s.dueAll("by none", new long[] {full.row(2, 0, 0), full.count(8), full.write(2, 0, 1)}, 0, 1, -7);
    }

    private void rowRefused() {
        s.of(66, "-2: there is no such SLOT or WIDTH (0 .. 3), or n is above 60");
        s.refused(-2, Made::busy, x -> x.row(-1, 0, 1), x -> x.row(4, 0, 1), x -> x.row(0, -1, 1), x -> x.row(0, 4, 1),
                x -> x.row(0, 0, 61), x -> x.row(3, 3, 61), x -> x.row(FAR, 0, 1), x -> x.row(DEEP, 0, 1),
                x -> x.row(0, FAR, 1), x -> x.row(0, DEEP, 1), x -> x.row(0, 0, FAR), x -> x.row(4, 0, -1),
                x -> x.row(-1, 0, -1), x -> x.row(0, 4, -1), x -> x.row(0, -1, -1));
        s.of(66, "-3, and the SLOT stays: n is below 0.");
        s.refused(-3, Made::busy, x -> x.row(0, 0, -1), x -> x.row(0, 1, -1), x -> x.row(1, 3, DEEP), x -> x.row(3, 0, -1));
        s.refused(-3, PassedPenance::new, x -> x.row(0, 0, -1));
    }

    private void write() {
        s.of(67, "Number i of the SLOT's row is v, cut to its WIDTH: 0.");
        for (int width = 0; width < 4; width++) {
            int bits = 8 << width;
            long over = bits == 64 ? 0 : 1L << bits;
            long half = 1L << bits - 1;
            long[] written = {7, 7 + over, 7 - over, 7 + 5 * over, -1, over - 1, -1 - over, 7 + half, half - 1, half, 0, 9};
            long[] due = {7, 7, 7, 7, -1, -1, -1, OTHER, OTHER, OTHER, 0, 9};
            for (int k = 0; k < written.length; k++) {
                PassedPenance x = Made.two();
                x.row(0, width, 60);
                s.due("write", x.write(0, 59, written[k]), 0);
                s.due(written[k] + " in width " + width, valueOf(x, 0, 59, width), due[k]);
                s.due("the one beside it", valueOf(x, 0, 58, width), 0);
            }
        }
        PassedPenance x = Made.two();
        x.row(2, 3, 2);
        s.dueAll("eight bytes are kept", new long[] {x.write(2, 0, 7 + (1L << 32)), valueOf(x, 2, 0, 3),
            x.write(2, 0, 7 + (1L << 8)), valueOf(x, 2, 0, 3), x.write(2, 0, Long.MIN_VALUE), valueOf(x, 2, 0, 3),
            x.write(2, 0, (1L << 32) - 1), valueOf(x, 2, 0, 3)}, 0, OTHER, 0, OTHER, 0, OTHER, 0, OTHER);
        s.of(67, "-2: there is no such SLOT");
        s.refused(-2, Made::busy, y -> y.write(-1, 0, 1), y -> y.write(4, 0, 1), y -> y.write(FAR, -1, 1), y -> y.write(DEEP, 0, 1));
        s.of(67, "-6: it has nothing");
        s.refused(-6, Made::busy, y -> y.write(3, 0, 1), y -> y.write(3, -1, 1), y -> y.write(3, 60, 1));
        s.of(67, "-7: there is no such number.");
        s.refused(0, Made::busy, y -> y.write(0, 0, 1), y -> y.write(0, 2, 3), y -> y.write(1, 1, 2));
        s.refused(-7, Made::busy, y -> y.write(0, -1, 9), y -> y.write(0, 3, 9), y -> y.write(1, 2, 9), y -> y.write(2, 0, 9),
                y -> y.write(0, FAR, 9), y -> y.write(0, DEEP, 9), y -> y.write(0, 59, 9), y -> y.write(0, 60, 9));
    }

    /** Rows of one width in slots 0 (1 2 3 4 5) and 1 (6 7 8). */
    private static PassedPenance rows() {
        PassedPenance x = Made.two();
        Check.lay(x, 0, 1, 2, 3, 4, 5);
        Check.lay(x, 1, 6, 7, 8);
        return x;
    }

    private void rowDue(PassedPenance x, String what, int slot, long... want) {
        for (int i = 0; i < want.length; i++) {
            s.due(what + ", number " + i + " of slot " + slot, valueOf(x, slot, i, 1), want[i]);
        }
    }

    private void pasted(int[] args, long[] first, long[] second) {
        PassedPenance x = rows();
        String call = "paste " + java.util.Arrays.toString(args);
        s.due(call, x.paste(args[0], args[1], args[2], args[3], args[4]), 0);
        rowDue(x, call, 0, first);
        rowDue(x, call, 1, second);
    }

    private void paste() {
        s.of(68, "So many numbers of a SLOT's row, from one on, are put to another one's (or its own), from one on, "
                + "as they were: 0.");
        long[] one = {1, 2, 3, 4, 5};
        long[] other = {6, 7, 8};
        pasted(new int[] {0, 1, 1, 0, 2}, one, new long[] {2, 3, 8});
        pasted(new int[] {0, 2, 1, 0, 3}, one, new long[] {3, 4, 5});
        pasted(new int[] {1, 0, 0, 2, 3}, new long[] {1, 2, 6, 7, 8}, other);
        pasted(new int[] {1, 2, 0, 0, 1}, new long[] {8, 2, 3, 4, 5}, other);
        pasted(new int[] {0, 0, 0, 1, 4}, new long[] {1, 1, 2, 3, 4}, other);
        pasted(new int[] {0, 1, 0, 0, 4}, new long[] {2, 3, 4, 5, 5}, other);
        pasted(new int[] {0, 0, 0, 0, 5}, one, other);
        pasted(new int[] {0, 0, 1, 0, 0}, one, other);
        pasted(new int[] {0, 5, 1, 3, 0}, one, other);
        PassedPenance x = rows();
        s.dueAll("a copy", new long[] {x.paste(0, 0, 1, 0, 1), x.write(0, 0, 9), valueOf(x, 1, 0, 1)}, 0, 0, 1);
        for (int width = 0; width < 4; width++) {
            PassedPenance y = Made.two();
            y.row(0, width, 60);
            y.row(1, width, 60);
            y.write(0, 59, -1);
            s.dueAll("width " + width, new long[] {y.paste(0, 0, 1, 0, 60), valueOf(y, 1, 59, width),
                y.paste(0, 59, 1, 0, 1), valueOf(y, 1, 0, width)}, 0, -1, 0, -1);
        }
    }

    private void pasteRefused() {
        s.of(68, "-2: there is no such SLOT");
        s.refused(-2, Made::busy, x -> x.paste(-1, 0, 0, 0, 1), x -> x.paste(4, 0, 0, 0, 1), x -> x.paste(0, 0, -1, 0, 1),
                x -> x.paste(0, 0, 4, 0, 1), x -> x.paste(3, 0, 4, 0, 1), x -> x.paste(4, 0, 3, 0, 1),
                x -> x.paste(FAR, 0, DEEP, 0, 1), x -> x.paste(4, -1, 4, -1, -1));
        s.of(68, "-6: one has nothing");
        s.refused(-6, Made::busy, x -> x.paste(0, 0, 3, 0, 1), x -> x.paste(3, 0, 0, 0, 1), x -> x.paste(3, 0, 3, 0, 0),
                x -> x.paste(3, -1, 2, -1, -1), x -> x.paste(0, 0, 3, 0, 0));
        s.of(68, "-8: they are not of one WIDTH");
        for (int width = 0; width < 16; width++) {
            PassedPenance x = new PassedPenance();
            x.row(0, width / 4, 1);
            x.row(1, width % 4, 1);
            s.due("widths " + width / 4 + " and " + width % 4, x.paste(0, 0, 1, 0, 1), width / 4 == width % 4 ? 0 : -8);
        }
        s.refused(-8, Made::busy, x -> x.paste(0, 0, 2, 0, 0), x -> x.paste(2, 0, 0, 0, 0), x -> x.paste(0, -1, 2, 0, 1),
                x -> x.paste(0, 0, 2, 0, 99));
        s.of(68, "-7, and nothing happens: some are beyond their rows, or a place or n is below 0.");
        // Slot 0 has three numbers, slot 1 two, of one width; slot 2 none.
        s.refused(-7, Made::busy, x -> x.paste(0, 0, 0, 0, 4), x -> x.paste(0, 1, 0, 0, 3), x -> x.paste(0, 0, 0, 1, 3),
                x -> x.paste(0, 3, 0, 0, 1), x -> x.paste(0, 0, 0, 3, 1), x -> x.paste(0, 0, 1, 0, 3),
                x -> x.paste(0, 0, 1, 1, 2), x -> x.paste(1, 1, 0, 0, 2), x -> x.paste(2, 0, 2, 0, 1),
                x -> x.paste(0, 4, 0, 0, 0), x -> x.paste(0, 0, 0, 4, 0));
        s.refused(-7, Made::busy, x -> x.paste(0, -1, 0, 0, 1), x -> x.paste(0, 0, 0, -1, 1), x -> x.paste(0, 0, 0, 0, -1),
                x -> x.paste(0, -1, 0, -1, 0), x -> x.paste(0, 1, 0, 1, -1), x -> x.paste(0, FAR, 0, 0, FAR),
                x -> x.paste(0, 0, 0, FAR, FAR), x -> x.paste(0, DEEP, 0, DEEP, DEEP), x -> x.paste(0, 1, 0, 0, FAR),
                x -> x.paste(0, -1, 0, 0, DEEP));
        s.refused(0, Made::busy, x -> x.paste(0, 0, 0, 0, 3), x -> x.paste(0, 3, 0, 3, 0), x -> x.paste(2, 0, 2, 0, 0),
                x -> x.paste(0, 2, 0, 2, 1), x -> x.paste(1, 0, 1, 0, 2), x -> x.paste(0, 3, 1, 2, 0));
    }
}
