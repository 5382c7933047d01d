/** The bounds of what was told and who gets what: Terms II, and promises 6 to 24. */
final class ChurchBounds {
    private static final int FAR = Made.FAR;
    private static final int DEEP = Made.DEEP;
    /** Persons 0, 1, 2 in one box, one behind the other; own ones 0, 1, 1; nothing lies in it at first. */
    private static final String LINE_OF_THREE = "church hours 3 boxes 2 odds 0;penance days 1;penance days 2;"
            + "person sin 0 at 0 bears 1;person sin 1 at 1 bears 1;person sin 1 at 2 bears 1;";

    private final Sentences s;

    ChurchBounds(Sentences s) {
        this.s = s;
    }

    void run() {
        queuesAndCosts();
        penanceAndPerson();
        mindsCostAndBox();
        queue();
        getsAndGiver();
        back();
        lastAndBears();
        ownAndGain();
        worst();
        passesAndAhead();
        kneel();
        sins();
    }

    private void queuesAndCosts() {
        s.of("II", "QUEUE of a BOX: its PERSONS by hours, in an hour by numbers.");
        PassedPenance x = Check.told("church hours 12 boxes 3 odds 0;penance days 1;person sin 0 at 11 bears 1;"
                + "person sin 0 at 0 bears 1;person sin 0 at 11 bears 1;person sin 0 at 0 bears 1;person sin 0 at 5 box 2 bears 1;"
                + "person sin 0 at 4 box 2 bears 1;person sin 0 at 5 bears 1;");
        s.dueAll("box 0", new long[] {x.queue(0, 0), x.queue(0, 1), x.queue(0, 2), x.queue(0, 3), x.queue(0, 4), x.queue(0, 5)},
                1, 3, 6, 0, 2, -1);
        s.dueAll("boxes 1, 2", new long[] {x.queue(1, 0), x.queue(2, 0), x.queue(2, 1), x.queue(2, 2)}, -1, 5, 4, -1);
        s.of("II", "Each GETS what lies in the BOX and leaves his own one there.");
        PassedPenance y = Made.full();
        s.dueAll("gets", new long[] {y.gets(0), y.gets(3), y.gets(6), y.gets(1), y.gets(4), y.gets(2), y.gets(5)},
                -1, 0, 3, -1, 1, 7, 2);
        s.dueAll("left there", new long[] {y.last(0), y.last(1), y.last(2)}, 6, 4, 5);
        s.of("II", "COST: days times what he bears, and what he minds it; of nothing 0.");
        PassedPenance most = Check.told(Made.EMPTY + "penance days 99;penance days 0;person sin 0 at 0 bears 9 minds 0 999;"
                + "person sin 1 at 0 bears 9 minds 1 999;person sin 1 at 0 bears 1;");
        s.dueAll("costs", new long[] {most.cost(0, 0), most.cost(0, 1), most.cost(0, -1), most.cost(1, 0), most.cost(1, 1),
            most.cost(1, -1), most.cost(2, 0), most.cost(2, 1)}, 1890, 0, 0, 891, 999, 0, 99, 0);
    }

    private void penanceAndPerson() {
        s.of(6, "Days of a PENANCE.");
        PassedPenance x = Made.full();
        s.dueAll("penance", new long[] {x.penance(0), x.penance(7)}, 10, 17);
        s.of(6, "-2: there is none such.");
        s.refused(-2, Made::full, y -> y.penance(8), y -> y.penance(-1));
        s.refused(-2, Made::busy, y -> y.penance(3), y -> y.penance(-1), y -> y.penance(FAR), y -> y.penance(DEEP));
        s.refused(-2, Made::nobody, y -> y.penance(0));
        s.noChurch(y -> y.penance(0));
        s.of(7, "Of a PERSON, what 0: his own PENANCE, 1: hour, 2: BOX, 3: bears.");
        s.dueAll("person 0", new long[] {x.person(0, 0), x.person(0, 1), x.person(0, 2), x.person(0, 3)}, 0, 0, 0, 1);
        s.dueAll("person 5", new long[] {x.person(5, 0), x.person(5, 1), x.person(5, 2), x.person(5, 3)}, 5, 5, 2, 6);
        s.dueAll("person 6", new long[] {x.person(6, 0), x.person(6, 1), x.person(6, 2), x.person(6, 3)}, 6, 6, 0, 7);
        s.of(7, "-2: there are none such.");
        s.refused(-2, Made::full, y -> y.person(7, 0), y -> y.person(-1, 3), y -> y.person(6, 4), y -> y.person(0, -1));
        s.refused(-2, Made::busy, y -> y.person(4, 0), y -> y.person(FAR, 1), y -> y.person(DEEP, 2), y -> y.person(0, FAR),
                y -> y.person(0, DEEP), y -> y.person(4, 4));
        s.refused(-2, Made::nobody, y -> y.person(0, 0));
        s.noChurch(y -> y.person(0, 0), y -> y.person(0, 4));
    }

    private void mindsCostAndBox() {
        PassedPenance x = Made.full();
        s.of(8, "What a PERSON minds a PENANCE (0 without).");
        s.dueAll("minds", new long[] {x.minds(0, 7), x.minds(6, 7), x.minds(6, 6), x.minds(0, 0)}, 900, 906, 0, 0);
        s.of(8, "-2: there are none such.");
        s.refused(-2, Made::full, y -> y.minds(7, 0), y -> y.minds(-1, 0), y -> y.minds(0, 8), y -> y.minds(0, -1));
        s.refused(-2, Made::busy, y -> y.minds(4, 0), y -> y.minds(0, 3), y -> y.minds(FAR, 0), y -> y.minds(0, DEEP));
        s.noChurch(y -> y.minds(0, 0));
        s.of(9, "COST (II) of a PENANCE (NONE: nothing) for a PERSON.");
        s.dueAll("cost", new long[] {x.cost(0, 0), x.cost(6, 6), x.cost(6, 7), x.cost(0, 7), x.cost(0, -1), x.cost(6, -1)},
                10, 112, 1025, 917, 0, 0);
        s.of(9, "-2: there are none such.");
        s.refused(-2, Made::full, y -> y.cost(7, 0), y -> y.cost(-1, 0), y -> y.cost(0, 8), y -> y.cost(0, -2),
                y -> y.cost(7, -1), y -> y.cost(-1, -1));
        s.refused(-2, Made::busy, y -> y.cost(4, 0), y -> y.cost(0, 3), y -> y.cost(0, FAR), y -> y.cost(0, DEEP));
        s.noChurch(y -> y.cost(0, 0), y -> y.cost(0, -1));
        s.of(10, "The PENANCE that lies in a BOX at first (NONE: nothing).");
        s.dueAll("box", new long[] {x.box(0), x.box(1), x.box(2)}, -1, -1, 7);
        PassedPenance acted = Made.busy();
        s.dueAll("at first, not now", new long[] {acted.box(0), acted.now(0)}, 2, 0);
        s.refused(-1, Made::nobody, y -> y.box(0));
        s.of(10, "-2: there is none such.");
        s.refused(-2, Made::full, y -> y.box(3), y -> y.box(-1));
        s.refused(-2, Made::busy, y -> y.box(2), y -> y.box(FAR), y -> y.box(DEEP));
        s.refused(-2, Made::nobody, y -> y.box(1));
        s.noChurch(y -> y.box(0));
    }

    private void queue() {
        s.of(11, "PERSON k (from 0) of the QUEUE (II) of a BOX.");
        PassedPenance x = Made.seven();
        for (int k = 0; k < 7; k++) {
            s.due("queue(0, " + k + ")", x.queue(0, k), k);
        }
        s.of(11, "NONE: there is none such");
        s.refused(-1, Made::seven, y -> y.queue(0, 7), y -> y.queue(0, -1));
        s.refused(-1, Made::busy, y -> y.queue(0, 3), y -> y.queue(0, -1), y -> y.queue(1, 1), y -> y.queue(0, FAR),
                y -> y.queue(0, DEEP));
        s.refused(-1, Made::nobody, y -> y.queue(0, 0));
        s.of(11, "-2: there is no such BOX.");
        s.refused(-2, Made::busy, y -> y.queue(2, 0), y -> y.queue(-1, 0), y -> y.queue(2, -1), y -> y.queue(FAR, 0),
                y -> y.queue(DEEP, 0));
        s.refused(-2, Made::full, y -> y.queue(3, 0));
        s.noChurch(y -> y.queue(0, 0), y -> y.queue(0, -1));
    }

    private void getsAndGiver() {
        PassedPenance x = Made.full();
        s.of(12, "The PENANCE that a PERSON GETS (NONE: nothing).");
        s.dueAll("gets", new long[] {x.gets(0), x.gets(2), x.gets(6)}, -1, 7, 3);
        s.of(12, "-2: there is none such.");
        s.refused(-2, Made::full, y -> y.gets(7), y -> y.gets(-1));
        s.refused(-2, Made::busy, y -> y.gets(4), y -> y.gets(FAR), y -> y.gets(DEEP));
        s.refused(-2, Made::nobody, y -> y.gets(0));
        s.noChurch(y -> y.gets(0));
        s.of(13, "The PERSON whose it was.");
        s.dueAll("giver", new long[] {x.giver(6), x.giver(3), x.giver(5), Made.seven().giver(1), Made.seven().giver(6)},
                3, 0, 2, 0, 5);
        s.of(13, "NONE: of nobody");
        s.dueAll("of those who are first, nothing and 7", new long[] {x.giver(0), x.giver(1), x.giver(2),
            Made.seven().giver(0)}, -1, -1, -1, -1);
        s.of(13, "-2 likewise.");
        s.refused(-2, Made::full, z -> z.giver(7), z -> z.giver(-1));
        s.refused(-2, Made::busy, z -> z.giver(4), z -> z.giver(FAR), z -> z.giver(DEEP));
        s.noChurch(z -> z.giver(0));
    }

    private void back() {
        s.of(14, "The PERSON who is n (0 .. 20) places ahead of him in the QUEUE.");
        PassedPenance x = Made.seven();
        s.dueAll("back", new long[] {x.back(6, 0), x.back(6, 1), x.back(6, 5), x.back(6, 6), x.back(0, 0), x.back(3, 2)},
                6, 5, 1, 0, 0, 1);
        s.refused(-2, Made::seven, y -> y.back(6, -1), y -> y.back(6, 21), y -> y.back(0, FAR), y -> y.back(0, DEEP));
        s.of(14, "NONE: there is none");
        s.refused(-1, Made::seven, y -> y.back(6, 7), y -> y.back(6, 20), y -> y.back(0, 1), y -> y.back(0, 20),
                y -> y.back(3, 4));
        PassedPenance z = Made.full();
        s.dueAll("of his box alone", new long[] {z.back(6, 1), z.back(6, 2), z.back(6, 3), z.back(5, 1), z.back(5, 2)},
                3, 0, -1, 2, -1);
        s.of(14, "-2: there are none such.");
        s.refused(-2, Made::full, y -> y.back(7, 0), y -> y.back(-1, 0), y -> y.back(7, 21));
        s.refused(-2, Made::busy, y -> y.back(4, 0), y -> y.back(FAR, 0), y -> y.back(DEEP, 0));
        s.noChurch(y -> y.back(0, 0));
    }

    private void lastAndBears() {
        PassedPenance x = Made.full();
        PassedPenance y = Check.told(Made.HEAD + "penance days 4; left 1 0;");
        s.of(15, "What lies in a BOX behind all (NONE: nothing).");
        s.dueAll("last", new long[] {x.last(0), x.last(1), x.last(2)}, 6, 4, 5);
        s.dueAll("boxes of nobody", new long[] {y.last(0), y.last(1)}, -1, 0);
        s.of(15, "-2: there is none such.");
        s.refused(-2, Made::full, z -> z.last(3), z -> z.last(-1));
        s.refused(-2, Made::busy, z -> z.last(2), z -> z.last(FAR), z -> z.last(DEEP));
        s.noChurch(z -> z.last(0));
        s.of(16, "COSTS of what all of a BOX GET, together.");
        s.dueAll("bears", new long[] {x.bears(0), x.bears(1), x.bears(2)}, 131, 55, 1025);
        s.dueAll("boxes of nobody", new long[] {y.bears(0), y.bears(1)}, 0, 0);
        s.dueAll("of the box alone", new long[] {Made.sample().bears(0), Made.sample().bears(1)}, 37, 0);
        s.of(16, "-2 likewise.");
        s.refused(-2, Made::full, z -> z.bears(3), z -> z.bears(-1));
        s.refused(-2, Made::busy, z -> z.bears(2), z -> z.bears(FAR), z -> z.bears(DEEP));
        s.noChurch(z -> z.bears(0));
    }

    private void ownAndGain() {
        s.of(17, "PERSONS who GET a PENANCE like their own, as bits.");
        s.dueAll("seven", new long[] {Made.seven().own(), Check.told(Made.SEVEN + "left 0 0;").own()}, 126, 127);
        // A penance of as many days is another one.
        s.dueAll("three", new long[] {Check.told(LINE_OF_THREE).own(), Check.told(LINE_OF_THREE.replace("days 2", "days 1")).own(),
            Made.full().own(), Made.nobody().own()}, 4, 4, 0, 0);
        s.of(17, "-2: there is no CHURCH.");
        s.noChurch(x -> x.own());
        s.of(18, "PERSONS whose COST of what they GET is less than of their own one, as bits.");
        // Nothing is less than 1, 1 less than 2, 2 not less than 2.
        s.due("three", Check.told(LINE_OF_THREE).gain(), 3);
        s.due("as much is not less", Check.told(LINE_OF_THREE.replace("days 2", "days 1")).gain(), 1);
        s.due("more is not less", Check.told(LINE_OF_THREE.replace("days 2", "days 0")).gain(), 1);
        s.due("nothing is not less than no days", Check.told(LINE_OF_THREE.replace("days 1", "days 0")).gain(), 2);
        s.dueAll("seven", new long[] {Made.seven().gain(), Made.nobody().gain()}, 1, 0);
        s.of(18, "-2 likewise.");
        s.noChurch(x -> x.gain());
    }

    private void worst() {
        s.of(19, "The PERSON whose COST is most by what he GETS above that of his own one, the first of several, if "
                + "it is above.");
        // Each told 0; what each gets costs him so much more than that.
        s.due("above by one", Made.apart(new long[][] {{5, 6}}, 1).worst(), 0);
        s.due("the most above, not the greatest cost", Made.apart(new long[][] {{500, 501}, {1, 5}}, 1, 1).worst(), 1);
        s.due("first of several", Made.apart(new long[][] {{5, 6}, {1, 3}, {2, 4}}, 1, 1, 1).worst(), 1);
        s.of(19, "NONE: nobody");
        s.due("as much", Made.apart(new long[][] {{5, 5}}, 1).worst(), -1);
        s.due("less", Made.apart(new long[][] {{5, 4}, {3, 9}}, 1, -1).worst(), -1);
        s.dueAll("seven, nobody there", new long[] {Made.seven().worst(), Made.nobody().worst()}, -1, -1);
        s.of(19, "-2 likewise.");
        s.noChurch(x -> x.worst());
    }

    private void passesAndAhead() {
        PassedPenance x = Made.full();
        s.of(20, "PERSONS who GET a PENANCE (NONE: nothing), as bits.");
        s.dueAll("passes", new long[] {x.passes(-1), x.passes(0), x.passes(3), x.passes(6), x.passes(7)}, 3, 8, 64, 0, 4);
        s.dueAll("seven", new long[] {Made.seven().passes(0), Made.seven().passes(-1)}, 126, 1);
        s.refused(0, Made::nobody, y -> y.passes(-1));
        s.of(20, "-2: there is none such, no CHURCH.");
        s.refused(-2, Made::full, y -> y.passes(8), y -> y.passes(-2));
        s.refused(-2, Made::busy, y -> y.passes(3), y -> y.passes(FAR), y -> y.passes(DEEP));
        s.refused(-2, Made::nobody, y -> y.passes(0));
        s.noChurch(y -> y.passes(-1), y -> y.passes(0));
        s.of(21, "How many are ahead of a PERSON in his QUEUE.");
        s.dueAll("ahead", new long[] {x.ahead(0), x.ahead(3), x.ahead(6), x.ahead(2), x.ahead(5), Made.seven().ahead(6)},
                0, 1, 2, 0, 1, 6);
        s.of(21, "-2: there is none such.");
        s.refused(-2, Made::full, y -> y.ahead(7), y -> y.ahead(-1));
        s.refused(-2, Made::busy, y -> y.ahead(4), y -> y.ahead(FAR), y -> y.ahead(DEEP));
        s.refused(-2, Made::nobody, y -> y.ahead(0));
        s.noChurch(y -> y.ahead(0));
    }

    private void kneel() {
        s.of(22, "KNEEL: of a PERSON the other one by a swap with whom (of what both GET) the first would have least "
                + "COST, if less than now");
        s.due("less by one", Made.apart(new long[][] {{5, 4}, {3, 3}}, 0, 1).kneel(0), 1);
        s.due("as much", Made.apart(new long[][] {{5, 5}, {3, 3}}, 0, 1).kneel(0), -1);
        s.due("more", Made.apart(new long[][] {{5, 6}, {3, 3}}, 0, 1).kneel(0), -1);
        s.due("nothing is less", Made.apart(new long[][] {{1, 1}, {0, 0}}, 0, -1).kneel(0), 1);
        s.due("nothing is as much as 0", Made.apart(new long[][] {{0, 0}, {0, 0}}, 0, -1).kneel(0), -1);
        s.due("the least", Made.apart(new long[][] {{9, 4, 3}, {3, 3, 3}, {3, 3, 3}}, 0, 1, 2).kneel(0), 2);
        s.due("asked by the last", Made.apart(new long[][] {{3, 3, 3}, {3, 3, 3}, {3, 4, 9}}, 0, 1, 2).kneel(2), 0);
        s.of(22, ", and the other one no more than now, the first of several.");
        s.due("as much", Made.apart(new long[][] {{5, 4}, {3, 3}}, 0, 1).kneel(0), 1);
        s.due("more by one", Made.apart(new long[][] {{5, 4}, {4, 3}}, 0, 1).kneel(0), -1);
        s.due("less", Made.apart(new long[][] {{5, 4}, {2, 3}}, 0, 1).kneel(0), 1);
        s.due("the least of those alone", Made.apart(new long[][] {{9, 4, 3}, {3, 3, 3}, {4, 3, 3}}, 0, 1, 2).kneel(0), 1);
        s.due("first of several", Made.apart(new long[][] {{9, 4, 4}, {3, 3, 3}, {3, 3, 3}}, 0, 1, 2).kneel(0), 1);
        s.of(22, "NONE: nobody");
        s.due("one alone", Made.apart(new long[][] {{5, 4}}, 0).kneel(0), -1);
        s.dueAll("of seven", new long[] {Made.seven().kneel(0), Made.seven().kneel(6)}, -1, -1);
        s.of(22, "-2: there is none such.");
        s.refused(-2, Made::full, y -> y.kneel(7), y -> y.kneel(-1));
        s.refused(-2, Made::busy, y -> y.kneel(4), y -> y.kneel(FAR), y -> y.kneel(DEEP));
        s.refused(-2, Made::nobody, y -> y.kneel(0));
        s.noChurch(y -> y.kneel(0));
    }

    private void sins() {
        // What 0 tells is what 1 gets; both mind by so much.
        String two = "church hours 2 boxes 1 odds 0;penance days 0;penance days 0;penance days 0;"
                + "person sin 0 at 0 bears 1;person sin 0 at 1 bears 1 minds 0 5 minds 1 4 minds 2 4;";
        s.of(23, "SIN: the least COSTS of what all GET, together, if the own PENANCE of a PERSON were any one.");
        PassedPenance x = Check.told(two + "left 0 0;");
        s.dueAll("sins", new long[] {x.sins(0), x.sins(1), x.person(0, 0), x.bears(0)}, 4, 5, 0, 5);
        s.due("all boxes count", Check.told(two.replace("boxes 1", "boxes 2")
                + "person sin 0 at 0 box 1 bears 1 minds 2 7;left 1 2;").sins(0), 11);
        s.of(23, "-2 likewise.");
        s.refused(-2, Made::full, y -> y.sins(7), y -> y.sins(-1));
        s.refused(-2, Made::busy, y -> y.sins(4), y -> y.sins(FAR), y -> y.sins(DEEP));
        s.refused(-2, Made::nobody, y -> y.sins(0));
        s.noChurch(y -> y.sins(0));
        s.of(24, "Which, the least of several.");
        s.dueAll("sinned", new long[] {x.sinned(0), x.sinned(1)}, 1, 0);
        s.due("the last of all", Check.told(two.replace("minds 2 4", "minds 2 3")).sinned(0), 2);
        s.due("the eighth", Check.told(Made.EMPTY + "penance days 1;".repeat(7) + "penance days 0;"
                + "person sin 0 at 0 bears 1;person sin 0 at 0 bears 1;").sinned(0), 7);
        s.of(24, "-2 likewise.");
        s.refused(-2, Made::full, y -> y.sinned(7), y -> y.sinned(-1));
        s.refused(-2, Made::busy, y -> y.sinned(4), y -> y.sinned(FAR), y -> y.sinned(DEEP));
        s.refused(-2, Made::nobody, y -> y.sinned(0));
        s.noChurch(y -> y.sinned(0));
    }
}
