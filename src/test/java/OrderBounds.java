/** The bounds of orders, hours, swaps and deals: Terms III and IV, and promises 25 to 40. */
final class OrderBounds {
    private static final int FAR = Made.FAR;
    private static final int DEEP = Made.DEEP;
    /** Three in one hour, told 0, 1, 1 of 50 days and one; nothing lies there at first. */
    private static final String DEAR_ONE = Made.EMPTY + "penance days 50;penance days 1;"
            + "person sin 0 at 0 bears 1;person sin 1 at 0 bears 1;person sin 1 at 0 bears 1;";
    /** Seven who told 0 .. 6, one behind the other, and 6 lies there at first: each gets that of the one ahead. */
    private static final String RING = ring(7);

    private final Sentences s;

    OrderBounds(Sentences s) {
        this.s = s;
    }

    void run() {
        best();
        orders();
        mostAndFair();
        likesAndWays();
        comesAndHour();
        stir();
        settle();
        settles();
        settled();
        swaps();
        swap();
        trades();
        deal();
        dealt();
    }

    private static String ring(int size) {
        StringBuilder text = new StringBuilder(Made.EMPTY + "penance days 1;".repeat(size));
        for (int p = 0; p < size; p++) {
            text.append("person sin ").append(p).append(" at 0 bears 1;");
        }
        return text.append("left 0 ").append(size - 1).append(';').toString();
    }

    private void noSuchBox(Sentences.Call third, Sentences.Call fourth, Sentences.Call below, Sentences.Call far,
            Sentences.Call deep, Sentences.Call first) {
        s.refused(-2, Made::full, fourth, below);
        s.refused(-2, Made::busy, third, fourth, below, far, deep);
        s.noChurch(first);
    }

    // ---- orders ----

    private void best() {
        s.of(25, "BEST: the least COSTS, together, of those of a BOX by any order of them.");
        PassedPenance x = Made.full();
        s.dueAll("full", new long[] {x.best(0), x.best(1), x.best(2)}, 56, 28, 1025);
        s.dueAll("of seven, three, none", new long[] {Made.seven().best(0), Check.told(DEAR_ONE).best(0),
            Made.nobody().best(0)}, 12, 2, 0);
        // The greatest costs that there may be.
        s.due("greatest", Check.told(Made.EMPTY + "penance days 99;" + "person sin 0 at 0 bears 9 minds 0 999;".repeat(7)
                + "left 0 0;").best(0), 13230);
        s.of(25, "-2: there is no such BOX.");
        noSuchBox(y -> y.best(2), y -> y.best(3), y -> y.best(-1), y -> y.best(FAR), y -> y.best(DEEP), y -> y.best(0));
    }

    private void orders() {
        s.of(26, "PERSON k (from 0) of the first such order (the least row).");
        PassedPenance x = Check.told(DEAR_ONE);
        s.dueAll("dear one last", new long[] {x.orders(0, 0), x.orders(0, 1), x.orders(0, 2)}, 1, 2, 0);
        PassedPenance seven = Made.seven();
        for (int k = 0; k < 7; k++) {
            s.due("orders(0, " + k + ") of seven alike", seven.orders(0, k), k);
        }
        PassedPenance free = Check.told(Made.SEVEN.replace("days 2", "days 0"));
        for (int k = 0; k < 7; k++) {
            s.due("orders(0, " + k + ") of seven at no cost", free.orders(0, k), k);
        }
        PassedPenance full = Made.full();
        s.dueAll("full", new long[] {full.orders(0, 0), full.orders(0, 1), full.orders(0, 2), full.orders(1, 0),
            full.orders(1, 1), full.orders(2, 0), full.orders(2, 1)}, 6, 0, 3, 4, 1, 2, 5);
        s.of(26, "NONE: there is none such");
        s.refused(-1, Made::seven, y -> y.orders(0, 7), y -> y.orders(0, -1));
        s.refused(-1, Made::full, y -> y.orders(0, 3), y -> y.orders(2, 2), y -> y.orders(2, -1));
        s.refused(-1, Made::busy, y -> y.orders(1, 1), y -> y.orders(0, FAR), y -> y.orders(0, DEEP));
        s.refused(-1, Made::nobody, y -> y.orders(0, 0));
        s.of(26, "-2 likewise.");
        noSuchBox(y -> y.orders(2, 0), y -> y.orders(3, -1), y -> y.orders(-1, 0), y -> y.orders(FAR, 0),
                y -> y.orders(DEEP, 0), y -> y.orders(0, 0));
    }

    private void mostAndFair() {
        PassedPenance x = Made.full();
        s.of(27, "The most COSTS, together, by any order.");
        s.dueAll("most", new long[] {x.most(0), x.most(1), x.most(2), Made.seven().most(0), Check.told(DEAR_ONE).most(0),
            Made.nobody().most(0)}, 134, 55, 1052, 12, 51, 0);
        s.of(27, "-2 likewise.");
        noSuchBox(y -> y.most(2), y -> y.most(3), y -> y.most(-1), y -> y.most(FAR), y -> y.most(DEEP), y -> y.most(0));
        s.of(28, "FAIR: the least greatest COST of one of them by any order (0 without any).");
        s.dueAll("fair", new long[] {x.fair(0), x.fair(1), x.fair(2), Made.seven().fair(0), Check.told(DEAR_ONE).fair(0)},
                40, 28, 953, 2, 1);
        s.dueAll("without any", new long[] {Made.nobody().fair(0),
            Check.told(Made.HEAD + "penance days 4;left 1 0;").fair(1)}, 0, 0);
        s.of(28, "-2 likewise.");
        noSuchBox(y -> y.fair(2), y -> y.fair(3), y -> y.fair(-1), y -> y.fair(FAR), y -> y.fair(DEEP), y -> y.fair(0));
    }

    private void likesAndWays() {
        s.of(29, "The most of them who GET a PENANCE like their own by any order.");
        s.dueAll("likes", new long[] {Made.seven().likes(0), Check.told(Made.SEVEN + "left 0 0;").likes(0),
            Check.told(DEAR_ONE).likes(0), Check.told(DEAR_ONE + "left 0 1;").likes(0), Made.full().likes(0),
            Made.nobody().likes(0), Check.told(RING).likes(0)}, 6, 7, 1, 2, 0, 0, 1);
        s.due("as many days are not like", Check.told(ring(2).replace("left 0 1;", "")).likes(0), 0);
        s.of(29, "-2 likewise.");
        noSuchBox(y -> y.likes(2), y -> y.likes(3), y -> y.likes(-1), y -> y.likes(FAR), y -> y.likes(DEEP), y -> y.likes(0));
        s.of(30, "By how many orders BEST is.");
        s.dueAll("ways", new long[] {Made.seven().ways(0), Check.told(DEAR_ONE).ways(0), Made.full().ways(0),
            Made.full().ways(2), Made.nobody().ways(0)}, 5040, 2, 1, 1, 1);
        s.of(30, "-2 likewise.");
        noSuchBox(y -> y.ways(2), y -> y.ways(3), y -> y.ways(-1), y -> y.ways(FAR), y -> y.ways(DEEP), y -> y.ways(0));
    }

    // ---- hours ----

    private void comesAndHour() {
        s.of(31, "WAIT: the COST a PERSON would have, if he came in an hour (0 .. hours less 1), all others as they do.");
        PassedPenance x = Made.sample();
        s.dueAll("comes of 0", new long[] {x.comes(0, 0), x.comes(0, 1), x.comes(0, 2), x.comes(0, 3)}, 2, 20, 2, 2);
        s.dueAll("comes of 2", new long[] {x.comes(2, 0), x.comes(2, 1), x.comes(2, 2), x.comes(2, 3)}, 30, 9, 9, 9);
        PassedPenance full = Made.full();
        // Ahead of all of box 2 is 7, behind 2 is 2.
        s.dueAll("twelve hours", new long[] {full.comes(5, 0), full.comes(5, 1), full.comes(5, 2), full.comes(5, 11)},
                1007, 1007, 72, 72);
        s.refused(0, Made::seven, y -> y.comes(0, 0));
        s.of(31, "-2: there are none such.");
        s.refused(-2, Made::full, y -> y.comes(5, 12), y -> y.comes(5, -1), y -> y.comes(7, 0), y -> y.comes(-1, 0));
        s.refused(-2, Made::busy, y -> y.comes(0, 4), y -> y.comes(0, -1), y -> y.comes(4, 0), y -> y.comes(FAR, 0),
                y -> y.comes(DEEP, 0), y -> y.comes(0, FAR), y -> y.comes(0, DEEP));
        s.refused(-2, Made::seven, y -> y.comes(0, 1));
        s.noChurch(y -> y.comes(0, 0));
        s.of(32, "The hour in which that is least, the first of several.");
        s.dueAll("hour", new long[] {x.hour(0), x.hour(1), x.hour(2), x.hour(3), full.hour(5), Made.seven().hour(6)},
                0, 1, 1, 0, 2, 0);
        // The one who comes in the last hour alone leaves what is least.
        s.due("the last", Check.told("church hours 12 boxes 1 odds 0;penance days 9;penance days 1;"
                + "person sin 1 at 11 bears 1;person sin 0 at 0 bears 1;left 0 0;").hour(1), 11);
        s.of(32, "-2: there is none such.");
        s.refused(-2, Made::full, y -> y.hour(7), y -> y.hour(-1));
        s.refused(-2, Made::busy, y -> y.hour(4), y -> y.hour(FAR), y -> y.hour(DEEP));
        s.refused(-2, Made::nobody, y -> y.hour(0));
        s.noChurch(y -> y.hour(0));
    }

    private void stir() {
        s.of(33, "PERSONS who would have less COST by another hour, as bits.");
        s.dueAll("stir", new long[] {Made.sample().stir(), Made.seven().stir(), Made.nobody().stir()}, 3, 0, 0);
        String two = "church hours 2 boxes 1 odds 0;penance days 5;penance days 6;"
                + "person sin 1 at 1 bears 1;person sin 1 at 0 bears 1;left 0 0;";
        s.due("less ahead", Check.told(two).stir(), 1);
        s.due("as much", Check.told(two.replace("days 6", "days 5")).stir(), 0);
        s.due("less behind", Check.told(two.replace("days 6", "days 4")).stir(), 2);
        s.due("no other hour", Check.told(two.replace("hours 2", "hours 1").replace("at 1", "at 0")).stir(), 0);
        // The seventh gets what is dear of the one ahead of him; an hour earlier he would be ahead of all.
        String seven = "penance days 0;penance days 9;" + "person sin 0 at 1 bears 1;".repeat(5)
                + "person sin 1 at 1 bears 1;person sin 0 at 1 bears 1;";
        s.due("the seventh", Check.told("church hours 2 boxes 1 odds 0;" + seven).stir(), 64);
        s.of(33, "-2: there is no CHURCH.");
        s.noChurch(x -> x.stir());
    }

    private void settle() {
        s.of("III", "SETTLE: as long as someone would have less COST by another hour, the first by numbers of those "
                + "who would comes in the hour that is best for him (hour()).");
        for (String text : new String[] {Made.SAMPLE, Made.SIXTY, Made.SEVEN}) {
            PassedPenance x = Check.told(text);
            PassedPenance way = Check.told(text);
            s.due("moves of " + text, x.settles(), Check.movesBy(way, 99));
            for (int p = 0; p < x.count(4); p++) {
                s.due("hour of " + p + " in " + text, x.settled(p), way.person(p, 1));
            }
        }
    }

    private void settles() {
        s.of(34, "SETTLE (III): behind how many moves nobody would.");
        s.dueAll("settles", new long[] {Made.sample().settles(), Made.seven().settles(), Made.nobody().settles()}, 1, 0, 0);
        s.refused(1, Made::busy, y -> y.settles());
        s.of(34, "NONE: not within 60");
        s.due("within 60", Check.told(Made.SIXTY).settles(), 60);
        s.due("not within 60", Check.told(Made.SIXTY_ONE).settles(), -1);
        s.due("it would settle by one more", Check.movesBy(Check.told(Made.SIXTY_ONE), 99), 61);
        PassedPenance x = Check.told(Made.SIXTY_ONE);
        Check.movesBy(x, 1);
        s.due("one move on", x.settles(), 60);
        Check.movesBy(x, 59);
        s.due("59 more", x.settles(), 1);
        Check.movesBy(x, 1);
        s.due("one more", x.settles(), 0);
        s.of(34, "-2 likewise.");
        s.noChurch(y -> y.settles());
    }

    private void settled() {
        s.of(35, "The hour of a PERSON then.");
        PassedPenance x = Made.sample();
        s.dueAll("settled", new long[] {x.settled(0), x.settled(1), x.settled(2), x.settled(3)}, 0, 0, 1, 2);
        PassedPenance sixty = Check.told(Made.SIXTY);
        PassedPenance way = Check.told(Made.SIXTY);
        Check.movesBy(way, 60);
        for (int p = 0; p < 5; p++) {
            s.due("within 60, person " + p, sixty.settled(p), way.person(p, 1));
        }
        s.of(35, "NONE, -2 likewise, there is none such.");
        s.refused(-1, () -> Check.told(Made.SIXTY_ONE), y -> y.settled(0), y -> y.settled(3));
        s.refused(-2, () -> Check.told(Made.SIXTY_ONE), y -> y.settled(4), y -> y.settled(-1));
        s.refused(-2, Made::full, y -> y.settled(7), y -> y.settled(-1));
        s.refused(-2, Made::busy, y -> y.settled(4), y -> y.settled(FAR), y -> y.settled(DEEP));
        s.refused(-2, Made::nobody, y -> y.settled(0));
        s.noChurch(y -> y.settled(0));
    }

    // ---- swaps, trades, deals ----

    private void swaps() {
        s.of(36, "SWAPS: the fewest swaps of what two PERSONS GET (nothing, too), one behind the other, by which "
                + "each has a PENANCE like his own.");
        for (int size = 1; size <= 7; size++) {
            s.due("a ring of " + size, Check.told(ring(size)).swaps(), size - 1);
        }
        // Two pairs, who could be taken for a ring of four.
        s.due("two pairs", Check.told(Made.EMPTY + "penance days 1;penance days 1;"
                + "person sin 0 at 0 bears 1;person sin 1 at 0 bears 1;".repeat(2) + "left 0 1;").swaps(), 2);
        s.due("all have theirs", Check.told(Made.SEVEN + "left 0 0;").swaps(), 0);
        s.of(36, "NONE: by none");
        s.due("one gets nothing", Made.seven().swaps(), -1);
        s.due("one gets what is nobody's", Check.told(Made.EMPTY + "penance days 1;penance days 1;"
                + "person sin 0 at 0 bears 1;left 0 1;").swaps(), -1);
        s.due("too many of one", Check.told(ring(3).replace("left 0 2", "left 0 1")).swaps(), -1);
        // They get 0 0 2, and told 1 each.
        s.due("none of theirs", Check.told("church hours 1 boxes 3 odds 0;penance days 1;penance days 1;penance days 1;"
                + "person sin 1 at 0 bears 1;person sin 1 at 0 box 1 bears 1;person sin 1 at 0 box 2 bears 1;"
                + "left 0 0;left 1 0;left 2 2;").swaps(), -1);
        s.due("nobody there", Made.nobody().swaps(), 0);
        s.of(36, "-2: there is no CHURCH.");
        s.noChurch(x -> x.swaps());
    }

    private void swap() {
        s.of(37, "PERSON 0, 1 (what) of the first such (the least pair: the lesser one first) by which it is one less.");
        PassedPenance ring = Check.told(RING);
        s.dueAll("a ring of seven", new long[] {ring.swap(0), ring.swap(1)}, 0, 1);
        // 0 has his own; 1 and 2 of box 1 have one another's.
        PassedPenance pair = Check.told("church hours 1 boxes 2 odds 0;penance days 1;penance days 2;penance days 3;"
                + "person sin 0 at 0 bears 1;person sin 1 at 0 box 1 bears 1;person sin 2 at 0 box 1 bears 1;left 0 0;left 1 2;");
        s.dueAll("a pair", new long[] {pair.swap(0), pair.swap(1)}, 1, 2);
        // The first five have their own, the last two of box 1 one another's.
        PassedPenance late = Check.told("church hours 1 boxes 2 odds 0;penance days 1;penance days 2;"
                + "person sin 0 at 0 bears 1;".repeat(5) + "person sin 0 at 0 box 1 bears 1;person sin 1 at 0 box 1 bears 1;"
                + "left 0 0;left 1 1;");
        s.dueAll("the last pair", new long[] {late.swaps(), late.swap(0), late.swap(1)}, 1, 5, 6);
        // Own 0 1 0 2, gotten 2 0 1 0: a ring of 0, 3 and one of 1, 2. No swap of 0 with 1 or 2 makes it less.
        PassedPenance rings = Check.told(Made.EMPTY + "penance days 1;penance days 1;penance days 1;person sin 0 at 0 bears 1;"
                + "person sin 1 at 0 bears 1;person sin 0 at 0 bears 1;person sin 2 at 0 bears 1;left 0 2;");
        s.dueAll("two rings", new long[] {rings.swaps(), rings.swap(0), rings.swap(1)}, 2, 0, 3);
        s.of(37, "NONE: none is needed, it can't be");
        PassedPenance own = Check.told(Made.SEVEN + "left 0 0;");
        s.dueAll("none needed", new long[] {own.swap(0), own.swap(1)}, -1, -1);
        PassedPenance seven = Made.seven();
        s.dueAll("it can't be", new long[] {seven.swap(0), seven.swap(1)}, -1, -1);
        s.dueAll("nobody there", new long[] {Made.nobody().swap(0), Made.nobody().swap(1)}, -1, -1);
        s.of(37, "-2 likewise, no such what.");
        s.refused(-2, () -> Check.told(RING), x -> x.swap(2), x -> x.swap(-1), x -> x.swap(FAR), x -> x.swap(DEEP));
        s.refused(-2, Made::nobody, x -> x.swap(2), x -> x.swap(-1));
        s.refused(-2, Made::busy, x -> x.swap(2), x -> x.swap(-1));
        s.noChurch(x -> x.swap(0), x -> x.swap(1), x -> x.swap(2));
    }

    private void trades() {
        s.of(38, "Pairs of PERSONS who both would have less COST by a swap of what they GET: how many.");
        s.due("both less by one", Made.apart(new long[][] {{5, 4}, {4, 5}}, 0, 1).trades(), 1);
        s.due("0 as much", Made.apart(new long[][] {{5, 5}, {4, 5}}, 0, 1).trades(), 0);
        s.due("1 as much", Made.apart(new long[][] {{5, 4}, {5, 5}}, 0, 1).trades(), 0);
        s.due("with nothing", Made.apart(new long[][] {{5, 4}, {4, 5}}, 0, -1).trades(), 0);
        s.due("three pairs", Made.apart(new long[][] {{9, 1, 1}, {1, 9, 1}, {1, 1, 9}}, 0, 1, 2).trades(), 3);
        s.due("two pairs", Made.apart(new long[][] {{9, 1, 1}, {1, 9, 9}, {1, 9, 9}}, 0, 1, 2).trades(), 2);
        s.dueAll("seven, one, nobody", new long[] {Made.seven().trades(), Made.apart(new long[][] {{1}}, 0).trades(),
            Made.nobody().trades()}, 0, 0, 0);
        s.of(38, "-2: there is no CHURCH.");
        s.noChurch(x -> x.trades());
    }

    private void deal() {
        s.of(39, "DEAL: the least sum of COSTS, if what all GET is dealt out anew, to each PERSON one of it.");
        s.due("each another one", Made.apart(new long[][] {{9, 1, 5}, {5, 9, 1}, {1, 5, 9}}, 0, 1, 2).deal(), 3);
        s.due("to each one", Made.apart(new long[][] {{9, 1}, {9, 2}}, 0, 1).deal(), 10);
        s.due("nothing too", Made.apart(new long[][] {{9, 1}, {4, 2}}, 0, -1).deal(), 4);
        s.dueAll("seven, ring, nobody", new long[] {Made.seven().deal(), Check.told(RING).deal(), Made.nobody().deal()},
                12, 7, 0);
        s.due("the greatest", Check.told(Made.EMPTY + "penance days 99;" + "person sin 0 at 0 bears 9 minds 0 999;".repeat(7)
                + "left 0 0;").deal(), 13230);
        s.of(39, "-2 likewise.");
        s.noChurch(x -> x.deal());
    }

    private void dealt() {
        s.of("IV", "The first such: PERSON by PERSON (by numbers) the least PENANCE (nothing last) by which it is "
                + "still as little.");
        PassedPenance ring = Check.told(RING);
        for (int p = 0; p < 7; p++) {
            s.due("dealt(" + p + ") of the ring", ring.dealt(p), p);
        }
        PassedPenance free = Made.apart(new long[][] {{0, 0, 0}, {0, 0, 0}, {0, 0, 0}}, 2, -1, 1);
        s.dueAll("nothing last", new long[] {free.dealt(0), free.dealt(1), free.dealt(2)}, 1, 2, -1);
        PassedPenance dear = Made.apart(new long[][] {{0, 0, 0}, {0, 1, 1}, {0, 0, 0}}, 2, -1, 1);
        s.dueAll("still as little", new long[] {dear.deal(), dear.dealt(0), dear.dealt(1), dear.dealt(2)}, 0, 1, -1, 2);
        s.of(40, "What a PERSON has by the first such (IV).");
        PassedPenance x = Made.sample();
        s.dueAll("dealt", new long[] {x.dealt(0), x.dealt(1), x.dealt(3)}, 2, 0, 1);
        s.of(40, "NONE: nothing");
        s.due("what is most to him", x.dealt(2), -1);
        s.dueAll("seven", new long[] {Made.seven().dealt(5), Made.seven().dealt(6)}, 0, -1);
        s.of(40, "-2: there is none such.");
        s.refused(-2, Made::full, y -> y.dealt(7), y -> y.dealt(-1));
        s.refused(-2, Made::busy, y -> y.dealt(4), y -> y.dealt(FAR), y -> y.dealt(DEEP));
        s.refused(-2, Made::nobody, y -> y.dealt(0));
        s.noChurch(y -> y.dealt(0));
    }
}
