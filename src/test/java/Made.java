/** Churches and objects that several tests use. */
final class Made {
    /*
     * Costs (penance 0, 1, 2): person 0: 6 20 2, person 1: 3 10 8, person 2: 9 30 3, person 3: 3 10 1.
     * Box 0: 1 gets 2, 0 gets 1, 2 gets 0; box 1: 3 gets nothing.
     */
    static final String SAMPLE = "church hours 4 boxes 2 odds 50;\n"
            + "penance days 3; penance days 10; penance days 1;\n"
            + "person sin 0 at 1 bears 2;\n"
            + "person sin 1 at 0 box 0 bears 1 minds 2 500 minds 2 7;\n"
            + "person sin 2 at 1 bears 3;\n"
            + "person sin 0 at 2 box 1 bears 1;\n"
            + "left 0 1; left 0 2;";
    static final String HEAD = "church hours 3 boxes 2 odds 50;";
    static final String EMPTY = "church hours 1 boxes 1 odds 0;";
    /** One hour, one box, seven who told the same penance of two days. */
    static final String SEVEN = EMPTY + "penance days 2;" + "person sin 0 at 0 bears 1;".repeat(7);
    /** One person, for whom penance 0 costs 0 and penance 1 costs 1: a row of a, b has the mean b / (a + b). */
    static final String TWO = EMPTY + "penance days 0;penance days 1;person sin 0 at 0 bears 1;";
    /** Settles behind just 60 moves. */
    static final String SIXTY = "church hours 8 boxes 1 odds 0;penance days 1;penance days 4;penance days 2;"
            + "person sin 1 at 6 bears 1;person sin 2 at 3 bears 1;person sin 2 at 0 bears 1 minds 2 7;"
            + "person sin 0 at 1 bears 1;person sin 0 at 2 bears 1 minds 0 4;left 0 0;";
    /** Settles behind 61 moves. */
    static final String SIXTY_ONE = "church hours 12 boxes 1 odds 0;penance days 4;penance days 1;penance days 2;"
            + "person sin 2 at 0 bears 1;person sin 2 at 6 bears 1;person sin 1 at 1 bears 1 minds 1 5;"
            + "person sin 1 at 5 bears 1 minds 1 4;left 0 0;";
    static final int FAR = Integer.MAX_VALUE;
    static final int DEEP = Integer.MIN_VALUE;

    private Made() {
    }

    static PassedPenance sample() {
        return Check.told(SAMPLE);
    }

    static PassedPenance seven() {
        return Check.told(SEVEN);
    }

    static PassedPenance two() {
        return Check.told(TWO);
    }

    static PassedPenance nobody() {
        return Check.told(EMPTY);
    }

    /** It had a church, and has none now. */
    static PassedPenance emptied() {
        PassedPenance x = sample();
        x.confess(0);
        x.church();
        return x;
    }

    static PassedPenance full() {
        return Check.told(fullText());
    }

    /**
     * As many of all as there may be. Penance i has 10 + i days; person p told p, comes in hour p to box p modulo 3,
     * bears p + 1, minds 7 by 900 + p; 7 lies in box 2, nothing in the others.
     */
    static String fullText() {
        StringBuilder text = new StringBuilder("church hours 12 boxes 3 odds 100;");
        for (int i = 0; i < 8; i++) {
            text.append("penance days 1").append(i).append(';');
        }
        for (int p = 0; p < 7; p++) {
            text.append("person sin ").append(p).append(" at ").append(p).append(" box ").append(p % 3);
            text.append(" bears ").append(p + 1).append(" minds 7 90").append(p).append(';');
        }
        return text + "left 2 7;";
    }

    /** The sample church with rows in slots 0, 1 and 2, an image of one act, and bytes on the tape; no acts. */
    static PassedPenance still() {
        PassedPenance x = sample();
        x.confess(3);
        x.image(1);
        x.undo();
        Check.lay(x, 0, 1, 2, 3);
        Check.lay(x, 1, 0, 2);
        x.row(2, 3, 0);
        Check.feed(x, "church hours 3 boxes");
        return x;
    }

    /** The same, and 1 and 0 have confessed: they have 2 and 1, and 0 lies in the box. */
    static PassedPenance busy() {
        PassedPenance x = still();
        x.confess(1);
        x.confess(0);
        return x;
    }

    /** The same with so many acts. */
    static PassedPenance withActs(int acts) {
        PassedPenance x = busy();
        for (int i = 2; i < acts; i++) {
            x.clear(0, 1);
        }
        return x;
    }

    /** Up to three persons in boxes of their own; what penances cost each, and what each gets (NONE: nothing). */
    static PassedPenance apart(long[][] costs, int... got) {
        StringBuilder text = new StringBuilder("church hours 1 boxes 3 odds 0;");
        text.append("penance days 0;".repeat(costs[0].length));
        for (int p = 0; p < costs.length; p++) {
            text.append("person sin 0 at 0 box ").append(p).append(" bears 1");
            for (int i = 0; i < costs[p].length; i++) {
                text.append(" minds ").append(i).append(' ').append(costs[p][i]);
            }
            text.append(';');
        }
        for (int p = 0; p < got.length; p++) {
            text.append(got[p] == PassedPenance.NONE ? "" : "left " + p + " " + got[p] + ";");
        }
        return Check.told(text.toString());
    }

    /** All that can be seen of an object but its fault; rows and images are used up by it. */
    static long[] state(PassedPenance x) {
        long[] seen = new long[300];
        int n = 0;
        for (int what = 0; what < 9; what++) {
            seen[n++] = x.count(what);
        }
        for (int i = 0; i < 8; i++) {
            seen[n++] = x.penance(i);
        }
        for (int p = 0; p < 7; p++) {
            for (int what = 0; what < 4; what++) {
                seen[n++] = x.person(p, what);
            }
            seen[n++] = x.minds(p, 2);
            seen[n++] = x.has(p);
            seen[n++] = x.gets(p);
        }
        for (int b = 0; b < 3; b++) {
            seen[n++] = x.box(b);
            seen[n++] = x.now(b);
        }
        seen[n++] = x.done();
        seen[n++] = x.sum();
        for (int slot = 0; slot < 4; slot++) {
            seen[n++] = x.mean(slot, 0, 0);
            seen[n++] = x.mean(slot, 0, 1);
            seen[n++] = x.fits(slot, 0);
        }
        for (int slot = 0; slot < 4; slot++) {
            seen[n++] = lengthOf(x, slot);
        }
        for (int k = 0; k < 3; k++) {
            seen[n++] = x.again(k);
            seen[n++] = x.count(5);
            seen[n++] = x.count(6);
            seen[n++] = x.done();
            seen[n++] = x.sum();
            seen[n++] = x.penance(0);
            seen[n++] = x.person(0, 1);
        }
        return java.util.Arrays.copyOf(seen, n);
    }

    /** What is answered to every question about the church that was told. */
    static long[] answers(PassedPenance x) {
        long[] seen = new long[400];
        int n = 0;
        for (int p = 0; p < 7; p++) {
            long[] ofPerson = {x.gets(p), x.giver(p), x.back(p, 1), x.ahead(p), x.kneel(p), x.sins(p), x.sinned(p), x.hour(p),
                x.comes(p, 0), x.comes(p, 11), x.settled(p), x.dealt(p), x.fate(7, p), x.luck(7, 9, p)};
            for (long answer : ofPerson) {
                seen[n++] = answer;
            }
            for (int i = 0; i < 8; i++) {
                seen[n++] = x.cost(p, i);
            }
        }
        for (int b = 0; b < 3; b++) {
            long[] ofBox = {x.last(b), x.bears(b), x.best(b), x.most(b), x.fair(b), x.likes(b), x.ways(b)};
            for (long answer : ofBox) {
                seen[n++] = answer;
            }
            for (int k = 0; k < 7; k++) {
                seen[n++] = x.queue(b, k);
                seen[n++] = x.orders(b, k);
            }
        }
        long[] ofAll = {x.own(), x.gain(), x.worst(), x.passes(-1), x.passes(0), x.stir(), x.settles(), x.swaps(), x.swap(0),
            x.swap(1), x.trades(), x.deal(), x.drawn(7, 0), x.drawn(7, 1)};
        for (long answer : ofAll) {
            seen[n++] = answer;
        }
        return java.util.Arrays.copyOf(seen, n);
    }

    /** How many numbers a slot's row has; what write() answers if it has nothing. */
    static int lengthOf(PassedPenance x, int slot) {
        int least = 0;
        int most = 61;
        while (least < most) {
            int i = (least + most) / 2;
            int answer = x.write(slot, i, 0);
            if (answer == -6) {
                return answer;
            }
            if (answer == 0) {
                least = i + 1;
            } else {
                most = i;
            }
        }
        return least;
    }
}
