/** The bounds of acts, changes, counts and images: promises 50 to 57 and 61 to 65. */
final class ActBounds {
    private static final int FAR = Made.FAR;
    private static final int DEEP = Made.DEEP;

    private final Sentences s;

    ActBounds(Sentences s) {
        this.s = s;
    }

    void run() {
        confess();
        clear();
        now();
        has();
        done();
        sum();
        undo();
        anew();
        set();
        move();
        count();
        countBounds();
        image();
        again();
    }

    // ---- 50 to 57 ----

    private void confess() {
        s.of(50, "A PERSON confesses now: the PENANCE he gets (NONE: nothing).");
        PassedPenance x = Made.full();
        s.dueAll("whoever comes first", new long[] {x.confess(6), x.confess(0), x.confess(3), x.confess(1), x.confess(5),
            x.confess(2), x.confess(4)}, -1, 6, 0, -1, 7, 5, 1);
        s.dueAll("now", new long[] {x.now(0), x.now(1), x.now(2), x.count(5), x.done()}, 3, 4, 2, 7, 127);
        s.of(50, "-5: he did, there were 40 acts");
        s.refused(-5, Made::busy, y -> y.confess(1), y -> y.confess(0));
        s.due("39 acts", Made.withActs(39).confess(2), 0);
        s.due("they are 40 then", afterConfession(39).count(5), 40);
        s.refused(-5, () -> Made.withActs(40), y -> y.confess(2), y -> y.confess(3), y -> y.confess(0));
        s.refused(-5, () -> afterConfession(39), y -> y.confess(3));
        s.of(50, "-2: there is none such.");
        s.refused(-2, Made::busy, y -> y.confess(4), y -> y.confess(-1), y -> y.confess(FAR), y -> y.confess(DEEP));
        s.refused(-2, Made::full, y -> y.confess(7), y -> y.confess(-1));
        s.refused(-2, () -> Made.withActs(40), y -> y.confess(4), y -> y.confess(-1));
        s.noChurch(y -> y.confess(0));
    }

    private static PassedPenance afterConfession(int acts) {
        PassedPenance x = Made.withActs(acts);
        x.confess(2);
        return x;
    }

    private void clear() {
        s.of(51, "Two PERSONS who confessed change what they have: 0.");
        PassedPenance x = Made.full();
        x.confess(6);
        x.confess(0);
        x.confess(2);
        s.dueAll("nothing is changed, too", new long[] {x.clear(6, 0), x.has(6), x.has(0), x.has(2), x.now(0), x.count(5)},
                0, 6, -1, 7, 0, 4);
        s.dueAll("of two boxes", new long[] {x.clear(2, 0), x.has(6), x.has(0), x.has(2), x.now(0), x.now(2)},
                0, 6, 7, -1, 0, 2);
        s.dueAll("back", new long[] {x.clear(0, 2), x.has(0), x.has(2), x.count(5)}, 0, -1, 7, 6);
        s.of(51, "-5: one did not, there were 40 acts");
        s.refused(-5, Made::busy, y -> y.clear(0, 2), y -> y.clear(2, 0), y -> y.clear(2, 3), y -> y.clear(1, 3));
        s.due("39 acts", Made.withActs(39).clear(0, 1), 0);
        s.refused(-5, () -> Made.withActs(40), y -> y.clear(0, 1), y -> y.clear(1, 0), y -> y.clear(0, 2));
        s.of(51, "-2: there are none such, one twice.");
        s.refused(-2, Made::busy, y -> y.clear(0, 0), y -> y.clear(2, 2), y -> y.clear(1, 1), y -> y.clear(4, 0),
                y -> y.clear(0, 4), y -> y.clear(-1, 0), y -> y.clear(0, -1), y -> y.clear(4, 4), y -> y.clear(FAR, DEEP));
        s.refused(-2, Made::full, y -> y.clear(7, 0), y -> y.clear(0, 7), y -> y.clear(6, 6));
        s.refused(-2, () -> Made.withActs(40), y -> y.clear(0, 0), y -> y.clear(0, 4));
        s.noChurch(y -> y.clear(0, 1), y -> y.clear(0, 0));
    }

    private void now() {
        s.of(52, "What lies in a BOX now (NONE: nothing).");
        PassedPenance x = Made.full();
        s.dueAll("at first", new long[] {x.now(0), x.now(1), x.now(2)}, -1, -1, 7);
        s.dueAll("then", new long[] {x.confess(4), x.now(0), x.now(1), x.now(2)}, -1, -1, 4, 7);
        s.refused(-1, Made::nobody, y -> y.now(0));
        s.of(52, "-2: there is none such.");
        s.refused(-2, Made::full, y -> y.now(3), y -> y.now(-1));
        s.refused(-2, Made::busy, y -> y.now(2), y -> y.now(FAR), y -> y.now(DEEP));
        s.refused(-2, Made::nobody, y -> y.now(1));
        s.noChurch(y -> y.now(0));
    }

    private void has() {
        s.of(53, "What a PERSON has now (NONE: nothing).");
        PassedPenance x = Made.full();
        s.dueAll("has", new long[] {x.has(6), x.confess(6), x.has(6), x.has(3), x.confess(3), x.has(3), x.has(2), x.confess(2),
            x.has(2)}, -3, -1, -1, -3, 6, 6, -3, 7, 7);
        s.of(53, "-3: he did not confess");
        s.refused(-3, Made::busy, y -> y.has(2), y -> y.has(3));
        s.refused(-3, Made::still, y -> y.has(0), y -> y.has(3));
        s.of(53, "-2: there is none such.");
        s.refused(-2, Made::busy, y -> y.has(4), y -> y.has(-1), y -> y.has(FAR), y -> y.has(DEEP));
        s.refused(-2, Made::full, y -> y.has(7));
        s.refused(-2, Made::nobody, y -> y.has(0));
        s.noChurch(y -> y.has(0));
    }

    private void done() {
        s.of(54, "PERSONS who confessed, as bits.");
        PassedPenance x = Made.full();
        s.dueAll("done", new long[] {x.done(), x.confess(6), x.done(), x.confess(0), x.done(), x.clear(0, 6), x.done()},
                0, -1, 64, 6, 65, 0, 65);
        s.refused(3, Made::busy, y -> y.done());
        s.refused(0, Made::nobody, y -> y.done());
        s.of(54, "-2: there is no CHURCH.");
        s.noChurch(y -> y.done());
    }

    private void sum() {
        s.of(55, "COSTS of what all have now, together.");
        PassedPenance x = Made.full();
        s.dueAll("nobody, nothing, two, three", new long[] {x.sum(), x.confess(6), x.sum(), x.confess(0), x.sum(), x.confess(2),
            x.sum()}, 0, -1, 0, 6, 16, 7, 969);
        s.dueAll("taken back", new long[] {x.undo(), x.sum(), x.undo(), x.sum(), x.confess(0), x.sum(), x.anew(), x.sum()},
                2, 16, 1, 0, 6, 16, 2, 0);
        PassedPenance greatest = Check.told(Made.EMPTY + "penance days 99;"
                + "person sin 0 at 0 bears 9 minds 0 999;".repeat(7) + "left 0 0;");
        for (int p = 0; p < 7; p++) {
            greatest.confess(p);
        }
        s.due("the greatest", greatest.sum(), 13230);
        s.refused(0, Made::nobody, y -> y.sum());
        s.of(55, "-2 likewise.");
        s.noChurch(y -> y.sum());
    }

    private void undo() {
        s.of(56, "The latest act is taken back: how many there are.");
        PassedPenance x = Made.withActs(40);
        for (int left = 39; left >= 2; left--) {
            s.dueAll("undo to " + left, new long[] {x.undo(), x.has(0), x.has(1)}, left, 1 + left % 2, 2 - left % 2);
        }
        s.dueAll("the confessions", new long[] {x.undo(), x.has(0), x.has(1), x.now(0), x.done(), x.undo(), x.has(1), x.now(0),
            x.done()}, 1, -3, 2, 1, 2, 0, -3, 2, 0);
        PassedPenance y = Made.full();
        y.confess(6);
        y.confess(2);
        y.clear(6, 2);
        s.dueAll("a clearing", new long[] {y.undo(), y.has(6), y.has(2), y.count(5)}, 2, -1, 7, 2);
        s.dueAll("the box is as it was", new long[] {y.undo(), y.now(2), y.undo(), y.now(0)}, 1, 7, 0, -1);
        s.of(56, "-5: there is none");
        s.refused(-5, Made::still, z -> z.undo());
        s.refused(-5, Made::nobody, z -> z.undo());
        s.of(56, "-2 likewise.");
        s.noChurch(z -> z.undo());
    }

    private void anew() {
        s.of(57, "All are: how many there were.");
        PassedPenance x = Made.withActs(40);
        s.dueAll("forty", new long[] {x.anew(), x.count(5), x.done(), x.has(0), x.has(1), x.now(0), x.sum(), x.undo(), x.anew()},
                40, 0, 0, -3, -3, 2, 0, -5, 0);
        s.dueAll("all may be done again", new long[] {x.confess(0), x.anew()}, 2, 1);
        s.refused(0, Made::still, y -> y.anew());
        s.refused(0, Made::nobody, y -> y.anew());
        s.of(57, "-2 likewise.");
        s.noChurch(y -> y.anew());
    }

    // ---- 61 and 62 ----

    private void set() {
        s.of(61, "The days of a PENANCE are n (0 .. 99) from now on: what they were.");
        PassedPenance x = Made.full();
        s.dueAll("set", new long[] {x.set(7, 0), x.penance(7), x.set(7, 99), x.penance(7), x.set(0, 99), x.penance(0),
            x.penance(1), x.cost(6, 0), x.cost(6, 7)}, 17, 0, 0, 99, 10, 99, 11, 693, 1599);
        s.refused(-2, Made::still, y -> y.set(0, -1), y -> y.set(0, 100), y -> y.set(0, FAR), y -> y.set(0, DEEP));
        s.of(61, "-5: there were acts");
        s.refused(-5, Made::busy, y -> y.set(0, 5), y -> y.set(2, 99), y -> y.set(0, 3));
        PassedPenance back = Made.busy();
        s.dueAll("one act is left, then none", new long[] {back.undo(), back.set(0, 5), back.undo(), back.set(0, 5)},
                1, -5, 0, 3);
        s.of(61, "-2: there are none such.");
        s.refused(-2, Made::busy, y -> y.set(3, 5), y -> y.set(-1, 5), y -> y.set(0, 100), y -> y.set(0, -1));
        s.refused(-2, Made::still, y -> y.set(3, 5), y -> y.set(-1, 5), y -> y.set(FAR, 5), y -> y.set(DEEP, 5));
        s.refused(-2, Made::full, y -> y.set(8, 5));
        s.noChurch(y -> y.set(0, 5));
    }

    private void move() {
        s.of(62, "A PERSON comes in an hour from now on: in which he came.");
        PassedPenance x = Made.full();
        s.dueAll("move", new long[] {x.move(6, 0), x.person(6, 1), x.queue(0, 1), x.move(0, 11), x.queue(0, 0), x.queue(0, 2),
            x.gets(0), x.move(0, 0), x.queue(0, 0)}, 6, 0, 6, 0, 6, 0, 3, 11, 0);
        s.of(62, "-5, -2 likewise.");
        PassedPenance back = Made.busy();
        s.dueAll("one act is left, then none", new long[] {back.undo(), back.move(0, 3), back.anew(), back.move(0, 3),
            back.person(0, 1)}, 1, -5, 1, 1, 3);
        s.refused(-5, Made::busy, y -> y.move(0, 0), y -> y.move(3, 3), y -> y.move(0, 1));
        s.refused(-2, Made::busy, y -> y.move(4, 0), y -> y.move(-1, 0), y -> y.move(0, 4), y -> y.move(0, -1));
        s.refused(-2, Made::still, y -> y.move(4, 0), y -> y.move(-1, 0), y -> y.move(0, 4), y -> y.move(0, -1),
                y -> y.move(FAR, 0), y -> y.move(DEEP, 0), y -> y.move(0, FAR), y -> y.move(0, DEEP));
        s.refused(-2, Made::full, y -> y.move(7, 0), y -> y.move(0, 12));
        s.noChurch(y -> y.move(0, 0));
    }

    // ---- 63 ----

    private void count() {
        s.of(63, "0 hours, 1 BOXES, 2 odds, 3 PENANCES, 4 PERSONS, 5 acts, 6 LINES, 7 bytes of the TAPE, 8 SLOTS "
                + "that have a row.");
        PassedPenance x = Made.busy();
        s.dueAll("busy", new long[] {x.count(0), x.count(1), x.count(2), x.count(3), x.count(4), x.count(5), x.count(6),
            x.count(7), x.count(8)}, 4, 2, 50, 3, 4, 2, 10, 20, 3);
        PassedPenance full = Made.full();
        s.dueAll("full", new long[] {full.count(0), full.count(1), full.count(2), full.count(3), full.count(4), full.count(5),
            full.count(6), full.count(7), full.count(8)}, 12, 3, 100, 8, 7, 0, 17, 0, 0);
        PassedPenance none = Made.emptied();
        for (int what = 0; what < 9; what++) {
            s.due("without a church, " + what, none.count(what), 0);
        }
        for (int slot = 3; slot >= 0; slot--) {
            s.dueAll("slots", new long[] {none.row(slot, 0, 0), none.count(8)}, 0, 4 - slot);
        }
        s.of(63, "NONE for others.");
        s.refused(-1, Made::busy, y -> y.count(9), y -> y.count(-1), y -> y.count(FAR), y -> y.count(DEEP));
        s.refused(-1, PassedPenance::new, y -> y.count(9), y -> y.count(-1));
    }

    private void countBounds() {
        s.of(63, "5 acts");
        s.dueAll("acts", new long[] {Made.still().count(5), Made.withActs(39).count(5), Made.withActs(40).count(5),
            afterConfession(40).count(5)}, 0, 39, 40, 40);
        s.of(63, "7 bytes of the TAPE");
        PassedPenance x = new PassedPenance();
        for (int i = 0; i < 60; i++) {
            x.feed(0, 0, 0, 0, 0);
        }
        s.dueAll("bytes", new long[] {x.count(7), x.feed(0, 0, 0, 0, 0), x.count(7), x.end(1), x.count(7)},
                1200, -1, 1200, 1, 1);
    }

    // ---- 64 and 65 ----

    private void image() {
        s.of(64, "IMAGE k (0 .. 2) keeps the CHURCH, and acts: 0.");
        for (int k = 0; k < 3; k++) {
            PassedPenance x = Made.withActs(40);
            s.due("image(" + k + ")", x.image(k), 0);
            x.anew();
            x.set(0, 99);
            x.move(0, 3);
            s.dueAll("kept by " + k, new long[] {x.again(k), x.count(5), x.penance(0), x.person(0, 1), x.has(0), x.has(1),
                x.clear(0, 1), x.undo(), x.has(0), x.has(1)}, 0, 40, 3, 1, 1, 2, -5, 39, 2, 1);
            x.anew();
            Check.tell(x, Made.TWO);
            s.dueAll("it keeps it still", new long[] {x.again(k), x.count(5), x.count(6), x.done(), x.minds(1, 2), x.box(0)},
                    0, 40, 10, 3, 7, 2);
        }
        PassedPenance other = Made.busy();
        other.clear(0, 1);
        other.image(0);
        other.anew();
        other.confess(3);
        other.confess(2);
        other.confess(0);
        s.dueAll("the acts are those of the image", new long[] {other.again(0), other.undo(), other.has(0), other.has(1),
            other.undo(), other.has(0), other.has(1), other.now(0), other.undo(), other.now(0), other.now(1), other.done()},
                0, 2, 1, 2, 1, -3, 2, 1, 0, 2, -1, 0);
        PassedPenance y = Made.busy();
        y.image(0);
        y.undo();
        y.image(0);
        s.dueAll("in place of the other", new long[] {y.anew(), y.again(0), y.count(5), y.again(1), y.count(5)}, 1, 0, 1, 0, 1);
        s.of(64, "-2: no such k.");
        s.refused(-2, Made::busy, x -> x.image(-1), x -> x.image(3), x -> x.image(FAR), x -> x.image(DEEP));
        s.refused(-2, PassedPenance::new, x -> x.image(-1), x -> x.image(3));
    }

    private void again() {
        s.of(65, "It is as IMAGE k has it: 0.");
        PassedPenance x = Made.busy();
        // Image 1 has one act of 3, at an empty box.
        s.dueAll("again", new long[] {x.again(1), x.count(5), x.done(), x.has(3), x.now(0), x.now(1), x.has(2), x.undo(),
            x.undo()}, 0, 1, 8, -1, 2, 0, -3, 0, -5);
        s.dueAll("slots, the tape stay", new long[] {x.count(8), x.count(7), x.mean(0, 0, 0)}, 3, 20, 26);
        s.dueAll("the image stays", new long[] {x.again(1), x.count(5)}, 0, 1);
        PassedPenance none = new PassedPenance();
        none.image(2);
        Check.tell(none, Made.SAMPLE);
        none.confess(0);
        s.dueAll("no church", new long[] {none.again(2), none.own(), none.count(4), none.count(5), none.count(6)},
                0, -2, 0, 0, 0);
        s.of(65, "-2: no such k");
        s.refused(-2, Made::busy, y -> y.again(-1), y -> y.again(3), y -> y.again(FAR), y -> y.again(DEEP));
        s.of(65, "-6: it has nothing.");
        s.refused(-6, Made::busy, y -> y.again(0), y -> y.again(2));
        s.refused(-6, PassedPenance::new, y -> y.again(0), y -> y.again(1), y -> y.again(2));
    }
}
