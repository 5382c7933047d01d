/** Each promise of the document with answers worked out by hand. */
public final class PromiseTest {
    private static final String SAMPLE = Made.SAMPLE;
    private static final String HEAD = Made.HEAD;
    private static final String EMPTY = Made.EMPTY;
    private static final int FAR = Made.FAR;
    private static final int DEEP = Made.DEEP;

    private static final Check CHECK = new Check();

    private static void due(String call, long got, long want) {
        CHECK.due(call, got, want);
    }

    private static PassedPenance sample() {
        return Made.sample();
    }

    public static void main(String[] args) {
        promise1();
        promise2();
        promise3();
        promise4();
        promise5ByKinds();
        promise5ByPlaces();
        promise5State();
        promises6To10();
        promises11To16();
        promises17To20();
        promises21To24();
        promises25To30();
        promises25To30Edges();
        promises31To35();
        promise34Endless();
        promises36And37();
        promises38To40();
        promises41To45();
        promises41To45Refusals();
        promises46And47();
        promises48And49();
        promises50To55();
        promises56And57();
        promise50Limit();
        promises58To60();
        promises61And62();
        promise63();
        promises64And65();
        promise66();
        promise67();
        promise68();
        CHECK.end();
    }

    // ---- 1 to 5 ----

    private static void promise1() {
        PassedPenance x = new PassedPenance();
        for (int what = 0; what <= 8; what++) {
            due("new count(" + what + ")", x.count(what), 0);
        }
        due("new own()", x.own(), -2);
        due("new penance(0)", x.penance(0), -2);
        due("new person(0, 0)", x.person(0, 0), -2);
        due("new passes(-1)", x.passes(-1), -2);
        due("new box(0)", x.box(0), -2);
        due("new undo()", x.undo(), -2);
        due("new again(0)", x.again(0), -6);
        due("NONE", PassedPenance.NONE, -1);
    }

    private static void promise2() {
        PassedPenance x = new PassedPenance();
        // "church hours 3 boxes" " 1 odds 7; penance d" "ays 4 ; penance days" " 250;" with the highest byte first
        due("feed 1", x.feed(0x63687572, 0x63682068, 0x6f757273, 0x20332062, 0x6f786573), 20);
        due("feed 2", x.feed(0x2031206f, 0x64647320, 0x373b2070, 0x656e616e, 0x63652064), 40);
        due("feed 3", x.feed(0x61797320, 0x34203b20, 0x70656e61, 0x6e636520, 0x64617973), 60);
        due("feed 4", x.feed(0x20393b20, 0x20202020, 0x0a0a0a0a, 0x20202020, 0x20202020), 80);
        due("church of it", x.church(), 3);
        due("hours of it", x.count(0), 3);
        due("odds of it", x.count(2), 7);
        due("penance 0 of it", x.penance(0), 4);
        due("penance 1 of it", x.penance(1), 9);
        for (int i = 1; i <= 60; i++) {
            due("feed " + i + " of 60", x.feed(-1, 0, DEEP, FAR, 1), 20 * i);
        }
        due("feed over 1,200", x.feed(0, 0, 0, 0, 0), -1);
        due("none came", x.count(7), 1200);
        due("end", x.end(1181), 1181);
        due("feed over by one", x.feed(0, 0, 0, 0, 0), -1);
        due("end", x.end(1180), 1180);
        due("feed to the brim", x.feed(0, 0, 0, 0, 0), 1200);
        due("byte 255 is no token", x.church(), -4);
        due("at its place", x.fault(1), 0);
    }

    private static void promise3() {
        PassedPenance x = new PassedPenance();
        due("end(0)", x.end(0), 0);
        due("end(1) of none", x.end(1), -1);
        due("end(-1)", x.end(-1), -1);
        Check.feed(x, EMPTY + "odd");
        due("end above", x.end(34), -1);
        due("end deep", x.end(DEEP), -1);
        due("end far", x.end(FAR), -1);
        due("all are there", x.count(7), 33);
        due("end of all", x.end(33), 33);
        due("end(30)", x.end(30), 30);
        due("end(31) then", x.end(31), -1);
        due("church", x.church(), 1);
        Check.feed(x, EMPTY);
        due("end(0)", x.end(0), 0);
        due("church of nothing", x.church(), 0);
    }

    private static void promise4() {
        PassedPenance x = sample();
        due("lines", x.count(6), 10);
        due("the tape is empty", x.count(7), 0);
        x.confess(0);
        due("church faulty", Check.tell(x, HEAD + "penance days 100;"), -4);
        due("the church stays", x.count(6), 10);
        due("the acts stay", x.count(5), 1);
        due("penances stay", x.count(3), 3);
        due("the tape stays", x.count(7), 48);
        due("it is as faulty again", x.church(), -4);
        due("at the same place", x.fault(1), 44);
        due("its head alone", x.end(31), 31);
        Check.feed(x, "penance days 5;left 1 0;");
        due("church in place of it", x.church(), 3);
        due("the tape is empty then", x.count(7), 0);
        due("nothing done", x.count(5), 0);
        due("boxes", x.count(1), 2);
        due("persons are gone", x.count(4), 0);
        due("penance(0)", x.penance(0), 5);
        due("penance(1)", x.penance(1), -2);
        due("box(0) has nothing now", x.box(0), -1);
        due("box(1)", x.box(1), 0);
        due("same church, done again", Check.tell(x, SAMPLE), 10);
        x.confess(1);
        due("church of blanks", Check.tell(x, " \n "), 0);
        due("there is none then", x.own(), -2);
        due("no lines", x.count(6), 0);
        due("no acts", x.count(5), 0);
        due("no hours", x.count(0), 0);
        due("without blanks", Check.tell(x, "church hours3boxes1odds007;penance days0;"
                + "person sin0at2box0bears9minds0 999minds0 0;left0 0;"), 4);
        due("odds 007", x.count(2), 7);
        due("a later minds strikes", x.minds(0, 0), 0);
        due("greatest numbers", Check.tell(x, "church hours 12 boxes 3 odds 100; penance days 99;"
                + "person sin 0 at 11 box 2 bears 9 minds 0 999; left 2 0;"), 4);
        due("cost of them", x.cost(0, 0), 1890);
        due("least numbers", Check.tell(x, "church hours 1 boxes 1 odds 0; penance days 0;"
                + "person sin 0 at 0 box 0 bears 1 minds 0 0; left 0 0;"), 4);
        due("cost of them", x.cost(0, 0), 0);
    }

    private static void fault(String text, int kind, int place) {
        PassedPenance x = new PassedPenance();
        due("church of " + text, Check.tell(x, text), kind == 0 ? x.count(6) : -4);
        due("fault of " + text, x.fault(0), kind);
        due("its place in " + text, x.fault(1), place);
    }

    private static void promise5ByKinds() {
        fault("", 0, -1);
        fault(EMPTY, 0, -1);
        fault("penance days 3;", 1, 0);
        fault("  foo", 1, 2);
        fault(";", 1, 0);
        fault("Church", 1, 0);
        fault("church", 1, 6);
        fault("church ", 1, 7);
        fault("churchhours", 1, 0);
        fault("churchz hours", 1, 0);
        fault("achurch hours", 1, 0);
        fault("church`", 1, 6);
        fault("church{", 1, 6);
        fault("church hours 1/", 1, 14);
        fault("church hours 1:", 1, 14);
        fault("church\0hours", 1, 6);
        fault("church\rhours", 1, 6);
        fault("church boxes", 1, 7);
        fault("church hours", 1, 12);
        fault("church hours x", 1, 13);
        fault("church hours 0", 2, 13);
        fault("church hours 13", 2, 13);
        fault("church hours 4294967297", 2, 13);
        fault("church hours 1 boxes 0", 2, 21);
        fault("church hours 1 boxes 4", 2, 21);
        fault("church hours 1 boxes 1 odds 101", 2, 28);
        fault("church hours 1 boxes 1 odds 99999999999999999999999999", 2, 28);
        fault("church hours 1 boxes 1 odds -1", 1, 28);
        fault("church hours 1 boxes 1 odds 0", 1, 29);
        fault("church hours 1 boxes 1 odds 0 0", 1, 30);
        fault(EMPTY + ";", 1, 30);
        fault(EMPTY + EMPTY, 1, 30);
        fault(EMPTY + " left", 1, 35);
        fault(EMPTY + "left 0 0;", 2, 37);
        fault(EMPTY + "left 1 0;", 2, 35);
        fault(EMPTY + "left x", 1, 35);
        fault(EMPTY + "minds 0 1;", 1, 30);
        fault(EMPTY + "penances days 1;", 1, 30);
        fault(EMPTY + "penance day 1;", 1, 38);
        fault(EMPTY + "penance days 100;", 2, 43);
        fault(EMPTY + "penance days;", 1, 42);
        fault(EMPTY + "person sin 0 at 0 bears 1;", 2, 41);
    }

    private static void promise5ByPlaces() {
        String base = HEAD + "penance days 1;";
        int at = base.length();
        fault(base + "person sin 0 at 0 bears 1;", 0, -1);
        fault(base + "person sin 1 at 3 bears 0;", 2, at + 11);
        fault(base + "person sin 0 at 3 bears 0;", 2, at + 16);
        fault(base + "person sin 0 at 0 box 2 bears 0;", 2, at + 22);
        fault(base + "person sin 0 at 0 box bears 0;", 1, at + 22);
        fault(base + "person sin 0 at 0 bears 0;", 2, at + 24);
        fault(base + "person sin 0 at 0 bears 10;", 2, at + 24);
        fault(base + "person sin 0 at 0 bears 1 box 1;", 1, at + 26);
        fault(base + "person sin 0 at 0 bears 1 minds 1 0;", 2, at + 32);
        fault(base + "person sin 0 at 0 bears 1 minds 0 1000;", 2, at + 34);
        fault(base + "person sin 0 at 0 bears 1 minds 0;", 1, at + 33);
        fault(base + "person sin 0 at 0 bears 1 minds 0 1 5;", 1, at + 36);
        fault(base + "person sin 0 at 0 bears 1", 1, at + 25);
        fault(base + "person sin 0 box 0 at 0 bears 1;", 1, at + 13);
        fault(base + "person at 0", 1, at + 7);
        fault(base + "left 2 0;", 2, at + 5);
        fault(base + "left 1 1;", 2, at + 7);
        fault(base + "left 1 0\t;", 1, at + 8);
        fault(base + "left 1 0 \u00e9", 1, at + 9);
        fault(base + "left 1 0,", 1, at + 8);
        fault(base + "church", 1, at);
        String eight = EMPTY + "penance days 1;".repeat(8);
        fault(eight, 0, -1);
        fault(eight + "penance", 3, 150);
        fault(eight + "\npenance days 100;", 3, 151);
        String seven = EMPTY + "penance days 1;" + "person sin 0 at 0 bears 1;".repeat(7);
        fault(seven, 0, -1);
        fault(seven + "person", 3, 227);
        fault(seven + "person sin 9", 3, 227);
        fault(seven + "persons", 1, 227);
    }

    private static void promise5State() {
        PassedPenance x = new PassedPenance();
        due("fault(0) ahead of any", x.fault(0), 0);
        due("fault(1) ahead of any", x.fault(1), -1);
        due("fault(2) ahead of any", x.fault(2), -1);
        Check.tell(x, "church hours 0");
        due("fault(0)", x.fault(0), 2);
        due("fault(1)", x.fault(1), 13);
        due("fault(2)", x.fault(2), -1);
        due("fault(-1)", x.fault(-1), -1);
        x.end(0);
        Check.feed(x, EMPTY);
        due("fault(0) is the latest church's", x.fault(0), 2);
        x.church();
        due("fault(0) without", x.fault(0), 0);
        due("fault(1) without", x.fault(1), -1);
    }

    // ---- 6 to 10 ----

    private static void promises6To10() {
        PassedPenance x = sample();
        long[] days = {x.penance(0), x.penance(1), x.penance(2), x.penance(3), x.penance(-1), x.penance(FAR)};
        CHECK.dueAll("penance", days, 3, 10, 1, -2, -2, -2);
        long[][] told = {{0, 1, 0, 2}, {1, 0, 0, 1}, {2, 1, 0, 3}, {0, 2, 1, 1}};
        for (int p = 0; p < 4; p++) {
            for (int what = 0; what < 4; what++) {
                due("person(" + p + ", " + what + ")", x.person(p, what), told[p][what]);
            }
        }
        CHECK.dueAll("person wrong", new long[] {x.person(4, 0), x.person(-1, 0), x.person(0, 4), x.person(0, -1)},
                -2, -2, -2, -2);
        CHECK.dueAll("minds", new long[] {x.minds(1, 2), x.minds(1, 1), x.minds(0, 2), x.minds(4, 0), x.minds(-1, 0),
            x.minds(0, 3), x.minds(0, -1)}, 7, 0, 0, -2, -2, -2, -2);
        long[][] costs = {{6, 20, 2}, {3, 10, 8}, {9, 30, 3}, {3, 10, 1}};
        for (int p = 0; p < 4; p++) {
            due("cost(" + p + ", -1)", x.cost(p, -1), 0);
            for (int penance = 0; penance < 3; penance++) {
                due("cost(" + p + ", " + penance + ")", x.cost(p, penance), costs[p][penance]);
            }
        }
        CHECK.dueAll("cost wrong", new long[] {x.cost(4, 0), x.cost(-1, 0), x.cost(0, 3), x.cost(0, -2), x.cost(4, -1)},
                -2, -2, -2, -2, -2);
        CHECK.dueAll("box", new long[] {x.box(0), x.box(1), x.box(2), x.box(-1)}, 2, -1, -2, -2);
    }

    // ---- 11 to 24 ----

    private static void promises11To16() {
        PassedPenance x = sample();
        CHECK.dueAll("queue", new long[] {x.queue(0, 0), x.queue(0, 1), x.queue(0, 2), x.queue(0, 3), x.queue(0, -1),
            x.queue(1, 0), x.queue(1, 1), x.queue(2, 0), x.queue(-1, 0)}, 1, 0, 2, -1, -1, 3, -1, -2, -2);
        CHECK.dueAll("gets", new long[] {x.gets(0), x.gets(1), x.gets(2), x.gets(3), x.gets(4), x.gets(-1)},
                1, 2, 0, -1, -2, -2);
        CHECK.dueAll("giver", new long[] {x.giver(0), x.giver(1), x.giver(2), x.giver(3), x.giver(4), x.giver(-1)},
                1, -1, 0, -1, -2, -2);
        CHECK.dueAll("back", new long[] {x.back(2, 0), x.back(2, 1), x.back(2, 2), x.back(2, 3), x.back(2, 20),
            x.back(2, 21), x.back(2, -1), x.back(3, 1), x.back(4, 0), x.back(-1, 0)},
                2, 0, 1, -1, -1, -2, -2, -1, -2, -2);
        CHECK.dueAll("last", new long[] {x.last(0), x.last(1), x.last(2), x.last(-1)}, 2, 0, -2, -2);
        CHECK.dueAll("bears", new long[] {x.bears(0), x.bears(1), x.bears(2), x.bears(-1)}, 37, 0, -2, -2);
        PassedPenance y = Check.told(HEAD + "penance days 4; left 1 0;");
        CHECK.dueAll("empty boxes", new long[] {y.last(0), y.last(1), y.bears(1), y.queue(1, 0)}, -1, 0, 0, -1);
        PassedPenance z = Check.told("church hours 12 boxes 1 odds 0; penance days 1; penance days 2; penance days 4;"
                + "person sin 0 at 11 bears 1; person sin 1 at 0 bears 1; person sin 2 at 11 bears 1;");
        CHECK.dueAll("late ones", new long[] {z.queue(0, 0), z.queue(0, 1), z.queue(0, 2), z.last(0), z.bears(0)},
                1, 0, 2, 2, 3);
    }

    private static void promises17To20() {
        PassedPenance x = sample();
        due("own()", x.own(), 0);
        due("gain()", x.gain(), 10);
        due("worst()", x.worst(), 0);
        CHECK.dueAll("passes", new long[] {x.passes(0), x.passes(1), x.passes(2), x.passes(-1), x.passes(3), x.passes(-2)},
                4, 1, 2, 8, -2, -2);
        // 0 and 1 are alike; what both pass on is one's own. 2 has a cost like that of his own one, not less.
        PassedPenance y = Check.told(HEAD + "penance days 4; penance days 4;"
                + "person sin 0 at 0 bears 1; person sin 0 at 1 bears 1; person sin 1 at 2 bears 1; left 0 0;");
        due("own()", y.own(), 3);
        due("gain()", y.gain(), 0);
        due("worst() of nobody", y.worst(), -1);
        // Both lose 3: the first of several.
        PassedPenance z = Check.told(HEAD + "penance days 1; penance days 4;"
                + "person sin 0 at 2 box 1 bears 1; person sin 0 at 1 bears 1; left 0 1; left 1 1;");
        due("worst() of several", z.worst(), 0);
        PassedPenance none = Check.told(EMPTY);
        CHECK.dueAll("nobody", new long[] {none.own(), none.gain(), none.worst(), none.passes(-1), none.passes(0)},
                0, 0, -1, 0, -2);
        PassedPenance nothing = new PassedPenance();
        CHECK.dueAll("no church", new long[] {nothing.own(), nothing.gain(), nothing.worst(), nothing.passes(0)},
                -2, -2, -2, -2);
    }

    private static void promises21To24() {
        PassedPenance x = sample();
        CHECK.dueAll("ahead", new long[] {x.ahead(0), x.ahead(1), x.ahead(2), x.ahead(3), x.ahead(4), x.ahead(-1)},
                1, 0, 2, 0, -2, -2);
        CHECK.dueAll("kneel", new long[] {x.kneel(0), x.kneel(1), x.kneel(2), x.kneel(3), x.kneel(4), x.kneel(-1)},
                -1, 2, 1, -1, -2, -2);
        CHECK.dueAll("sins", new long[] {x.sins(0), x.sins(1), x.sins(2), x.sins(3), x.sins(4), x.sins(-1)},
                31, 19, 37, 37, -2, -2);
        CHECK.dueAll("sinned", new long[] {x.sinned(0), x.sinned(1), x.sinned(2), x.sinned(3), x.sinned(4), x.sinned(-1)},
                2, 2, 0, 0, -2, -2);
        due("nothing has changed", x.person(1, 0), 1);
        // 0 gets 1 (cost 9); by a swap with 1 or 2, who get 0, he has 1 and they bear no more: the first of several.
        PassedPenance y = Check.told("church hours 1 boxes 3 odds 0; penance days 1; penance days 9;"
                + "person sin 0 at 0 bears 1; person sin 0 at 0 box 1 bears 1 minds 0 8;"
                + "person sin 0 at 0 box 2 bears 1 minds 0 8; left 0 1; left 1 0; left 2 0;");
        CHECK.dueAll("kneel of several", new long[] {y.kneel(0), y.kneel(1)}, 1, -1);
        // The least cost counts ahead of the number.
        PassedPenance z = Check.told("church hours 1 boxes 3 odds 0; penance days 2; penance days 9; penance days 1;"
                + "person sin 0 at 0 bears 1; person sin 0 at 0 box 1 bears 1 minds 0 8;"
                + "person sin 0 at 0 box 2 bears 1 minds 2 8; left 0 1; left 1 0; left 2 2;");
        CHECK.dueAll("kneel of the least", new long[] {z.kneel(0)}, 2);
    }

    // ---- 25 to 30 ----

    private static void promises25To30() {
        PassedPenance x = sample();
        CHECK.dueAll("best", new long[] {x.best(0), x.best(1), x.best(2), x.best(-1)}, 8, 0, -2, -2);
        CHECK.dueAll("orders", new long[] {x.orders(0, 0), x.orders(0, 1), x.orders(0, 2), x.orders(0, 3),
            x.orders(0, -1), x.orders(1, 0), x.orders(1, 1), x.orders(2, 0), x.orders(-1, 0)},
                2, 0, 1, -1, -1, 3, -1, -2, -2);
        CHECK.dueAll("most", new long[] {x.most(0), x.most(1), x.most(2), x.most(-1)}, 40, 0, -2, -2);
        CHECK.dueAll("fair", new long[] {x.fair(0), x.fair(1), x.fair(2), x.fair(-1)}, 3, 0, -2, -2);
        CHECK.dueAll("likes", new long[] {x.likes(0), x.likes(1), x.likes(2), x.likes(-1)}, 1, 0, -2, -2);
        CHECK.dueAll("ways", new long[] {x.ways(0), x.ways(1), x.ways(2), x.ways(-1)}, 1, 1, -2, -2);
    }

    private static void promises25To30Edges() {
        PassedPenance none = Check.told(EMPTY);
        CHECK.dueAll("empty box", new long[] {none.best(0), none.orders(0, 0), none.most(0), none.fair(0),
            none.likes(0), none.ways(0)}, 0, -1, 0, 0, 0, 1);
        // Seven alike: every order is as good, six get what is like their own.
        PassedPenance seven = Made.seven();
        CHECK.dueAll("seven alike", new long[] {seven.best(0), seven.most(0), seven.fair(0), seven.likes(0),
            seven.ways(0)}, 12, 12, 2, 6, 5040);
        for (int k = 0; k < 7; k++) {
            due("orders(0, " + k + ") of seven alike", seven.orders(0, k), k);
        }
        // First costs nothing, so the dear own one of 0 must be left last: 1 and 2 first in either order.
        PassedPenance last = Check.told(EMPTY + "penance days 50; penance days 1;"
                + "person sin 0 at 0 bears 1; person sin 1 at 0 bears 1; person sin 1 at 0 bears 1;");
        CHECK.dueAll("dear one last", new long[] {last.best(0), last.ways(0), last.orders(0, 0), last.orders(0, 1),
            last.orders(0, 2), last.most(0), last.fair(0), last.likes(0)}, 2, 2, 1, 2, 0, 51, 1, 1);
    }

    // ---- 31 to 35 ----

    private static void promises31To35() {
        PassedPenance x = sample();
        long[][] costs = {{2, 20, 2, 2}, {8, 3, 8, 8}, {30, 9, 9, 9}, {0, 0, 0, 0}};
        for (int p = 0; p < 4; p++) {
            for (int h = 0; h < 4; h++) {
                due("comes(" + p + ", " + h + ")", x.comes(p, h), costs[p][h]);
            }
        }
        CHECK.dueAll("comes wrong", new long[] {x.comes(4, 0), x.comes(-1, 0), x.comes(0, 4), x.comes(0, -1)},
                -2, -2, -2, -2);
        CHECK.dueAll("hour", new long[] {x.hour(0), x.hour(1), x.hour(2), x.hour(3), x.hour(4), x.hour(-1)},
                0, 1, 1, 0, -2, -2);
        due("stir()", x.stir(), 3);
        due("settles()", x.settles(), 1);
        CHECK.dueAll("settled", new long[] {x.settled(0), x.settled(1), x.settled(2), x.settled(3), x.settled(4),
            x.settled(-1)}, 0, 0, 1, 2, -2, -2);
        due("nobody has moved", x.person(0, 1), 1);
        PassedPenance none = Check.told(EMPTY);
        CHECK.dueAll("nobody", new long[] {none.stir(), none.settles(), none.settled(0)}, 0, 0, -2);
        PassedPenance nothing = new PassedPenance();
        CHECK.dueAll("no church", new long[] {nothing.stir(), nothing.settles(), nothing.settled(0)}, -2, -2, -2);
    }

    private static void settling(String text, int moves) {
        PassedPenance x = Check.told(text);
        PassedPenance way = Check.told(text);
        due("settles() of " + text, x.settles(), moves > 60 ? -1 : moves);
        due("moves of " + text, Check.movesBy(way, 99), moves);
        for (int p = 0; p < x.count(4); p++) {
            due("settled(" + p + ") of " + text, x.settled(p), moves > 60 ? -1 : way.person(p, 1));
        }
        due("settled() of one who is none", x.settled(x.count(4)), -2);
    }

    private static void promise34Endless() {
        // Both flee behind one another, hour by hour, until there is no later one and the lesser number stays first.
        PassedPenance x = Check.told("church hours 3 boxes 1 odds 0; penance days 9; penance days 1; penance days 2;"
                + "person sin 1 at 0 bears 1; person sin 2 at 0 bears 1; left 0 0;");
        CHECK.dueAll("flee", new long[] {x.stir(), x.settles(), x.settled(0), x.settled(1)}, 1, 4, 2, 2);
        settling(SAMPLE, 1);
        settling(Made.SIXTY, 60);
        settling(Made.SIXTY_ONE, 61);
        settling("church hours 8 boxes 1 odds 0;penance days 0;penance days 2;penance days 3;person sin 0 at 3 bears 1;"
                + "person sin 0 at 4 bears 1 minds 0 7;person sin 1 at 6 bears 1;left 0 2;", 99);
    }

    // ---- 36 to 40 ----

    private static void promises36And37() {
        PassedPenance x = sample();
        CHECK.dueAll("one gets nothing", new long[] {x.swaps(), x.swap(0), x.swap(1), x.swap(2), x.swap(-1)},
                -1, -1, -1, -2, -2);
        // They get 2 0 1: a ring of three.
        PassedPenance ring = Check.told(EMPTY + "penance days 1; penance days 2; penance days 3;"
                + "person sin 0 at 0 bears 1; person sin 1 at 0 bears 1; person sin 2 at 0 bears 1; left 0 2;");
        CHECK.dueAll("a ring", new long[] {ring.swaps(), ring.swap(0), ring.swap(1)}, 2, 0, 1);
        // 0 gets his own; 1 and 2 of box 1 get 2 1.
        PassedPenance pair = Check.told("church hours 1 boxes 2 odds 0; penance days 1; penance days 2; penance days 3;"
                + "person sin 0 at 0 bears 1; person sin 1 at 0 box 1 bears 1; person sin 2 at 0 box 1 bears 1;"
                + "left 0 0; left 1 2;");
        CHECK.dueAll("a pair", new long[] {pair.swaps(), pair.swap(0), pair.swap(1)}, 1, 1, 2);
        // Own 0 1 0 1, gotten 1 0 1 0: two swaps, the first of 0 with 1.
        PassedPenance two = Check.told(EMPTY + "penance days 1; penance days 2;"
                + "person sin 0 at 0 bears 1; person sin 1 at 0 bears 1;".repeat(2) + "left 0 1;");
        CHECK.dueAll("two pairs", new long[] {two.swaps(), two.swap(0), two.swap(1)}, 2, 0, 1);
        PassedPenance own = Check.told(EMPTY + "penance days 1; person sin 0 at 0 bears 1; left 0 0;");
        CHECK.dueAll("none needed", new long[] {own.swaps(), own.swap(0), own.swap(1)}, 0, -1, -1);
        // None gets nothing, yet what lies there at first is nobody's own.
        PassedPenance odd = Check.told(EMPTY + "penance days 1; penance days 2; person sin 0 at 0 bears 1; left 0 1;");
        CHECK.dueAll("can't be", new long[] {odd.swaps(), odd.swap(0)}, -1, -1);
        PassedPenance none = Check.told(EMPTY);
        CHECK.dueAll("nobody", new long[] {none.swaps(), none.swap(0), none.swap(2)}, 0, -1, -2);
        PassedPenance nothing = new PassedPenance();
        CHECK.dueAll("no church", new long[] {nothing.swaps(), nothing.swap(0)}, -2, -2);
    }

    private static void promises38To40() {
        PassedPenance x = sample();
        due("trades()", x.trades(), 1);
        due("deal()", x.deal(), 15);
        CHECK.dueAll("dealt", new long[] {x.dealt(0), x.dealt(1), x.dealt(2), x.dealt(3), x.dealt(4), x.dealt(-1)},
                2, 0, -1, 1, -2, -2);
        // Nothing and a penance of no days cost the same: nothing last.
        PassedPenance y = Check.told(EMPTY + "penance days 0; penance days 0;"
                + "person sin 1 at 0 bears 1; person sin 0 at 0 bears 1; person sin 0 at 0 bears 1;");
        CHECK.dueAll("nothing last", new long[] {y.deal(), y.dealt(0), y.dealt(1), y.dealt(2), y.trades()},
                0, 0, 1, -1, 0);
        PassedPenance none = Check.told(EMPTY);
        CHECK.dueAll("nobody", new long[] {none.trades(), none.deal(), none.dealt(0)}, 0, 0, -2);
        PassedPenance nothing = new PassedPenance();
        CHECK.dueAll("no church", new long[] {nothing.trades(), nothing.deal(), nothing.dealt(0)}, -2, -2, -2);
    }

    // ---- 41 to 45 ----

    /** fits, firsts, may of 0, 1, 2, ask, leaves of slot 0 and box 0. */
    private static void seen(PassedPenance x, String what, long... want) {
        CHECK.dueAll(what, new long[] {x.fits(0, 0), x.firsts(0, 0), x.may(0, 0, 0), x.may(0, 0, 1), x.may(0, 0, 2),
            x.ask(0, 0), x.leaves(0, 0)}, want);
    }

    private static void promises41To45() {
        PassedPenance x = sample();
        Check.lay(x, 0);
        seen(x, "nothing seen", 6, 7, 6, 5, 7, 2, 2);
        Check.lay(x, 0, 0, 2);
        seen(x, "0 got 2", 4, 7, 4, 5, 7, 1, 2);
        Check.lay(x, 0, 0, 2, 1, 0);
        seen(x, "and 1 got 0", 2, 5, 4, 1, 6, 2, 1);
        Check.lay(x, 0, 2, 2, 0, 1);
        seen(x, "2 got 2, 0 got 1", 1, 4, 2, 4, 4, -1, 1);
        Check.lay(x, 0, 0, 0);
        seen(x, "0 can't get 0", 0, 0, 0, 0, 0, -1, 0);
        Check.lay(x, 0, 0, -1);
        seen(x, "0 can't get nothing", 0, 0, 0, 0, 0, -1, 0);
        Check.lay(x, 0, 0, 2, 0, 1);
        seen(x, "0 can't get both", 0, 0, 0, 0, 0, -1, 0);
        Check.lay(x, 0, 0, 2, 0, 2);
        due("twice the same", x.fits(0, 0), 4);
        Check.lay(x, 1, 3, -1);
        CHECK.dueAll("box 1", new long[] {x.fits(1, 1), x.firsts(1, 1), x.may(1, 1, 3), x.ask(1, 1), x.leaves(1, 1)},
                1, 8, 256, -1, 1);
        Check.lay(x, 1, 3, 0);
        CHECK.dueAll("box 1, not so", new long[] {x.fits(1, 1), x.firsts(1, 1), x.may(1, 1, 3)}, 0, 0, 0);
        PassedPenance none = Check.told(EMPTY);
        none.row(2, 0, 0);
        CHECK.dueAll("nobody", new long[] {none.fits(2, 0), none.firsts(2, 0), none.ask(2, 0), none.leaves(2, 0),
            none.may(2, 0, 0)}, 1, 0, -1, 1, -2);
        PassedPenance seven = Made.seven();
        seven.row(3, 3, 0);
        CHECK.dueAll("seven alike", new long[] {seven.fits(3, 0), seven.firsts(3, 0), seven.may(3, 0, 6), seven.ask(3, 0),
            seven.leaves(3, 0)}, 5040, 127, 257, 0, 4320);
    }

    private static void promises41To45Refusals() {
        PassedPenance x = sample();
        int[][] refused = {{4, 0, -2}, {-1, 0, -2}, {0, 2, -2}, {0, -1, -2}, {0, 0, -6}, {0, 1, -6}};
        for (int[] r : refused) {
            String of = "(" + r[0] + ", " + r[1] + ")";
            CHECK.dueAll("refused " + of, new long[] {x.fits(r[0], r[1]), x.firsts(r[0], r[1]), x.ask(r[0], r[1]),
                x.leaves(r[0], r[1])}, r[2], r[2], r[2], r[2]);
        }
        CHECK.dueAll("may refused", new long[] {x.may(4, 0, 0), x.may(0, 2, 0), x.may(0, 0, 0), x.may(0, 0, 4),
            x.may(0, 0, -1), x.may(0, 1, 0), x.may(0, 1, 3)}, -2, -2, -6, -2, -2, -2, -6);
        long[][] rows = {{0}, {0, 2, 1}, {0, 3}, {0, -2}, {4, 0}, {-1, 0}, {3, 0}, {0, 2, 3, -1}, {260, 0}, {0, 256}};
        for (long[] row : rows) {
            Check.lay(x, 0, row);
            CHECK.dueAll("row of " + row.length + " from " + row[0], new long[] {x.fits(0, 0), x.firsts(0, 0),
                x.may(0, 0, 0), x.ask(0, 0), x.leaves(0, 0)}, -2, -2, -2, -2, -2);
        }
        Check.lay(x, 0, 0, 2);
        CHECK.dueAll("may of another box", new long[] {x.may(0, 0, 3), x.may(0, 0, 2)}, -2, 7);
        x.row(0, 3, 2);
        x.write(0, 0, 1L << 32);
        due("a person far away", x.fits(0, 0), -2);
        x.write(0, 0, 0);
        x.write(0, 1, (1L << 32) + 2);
        due("a penance far away", x.fits(0, 0), -2);
    }

    // ---- 46 to 49 ----

    private static void promises46And47() {
        PassedPenance x = sample();
        CHECK.dueAll("choose of none", new long[] {x.choose(0), x.choose(4), x.choose(-1)}, -1, -2, -2);
        Check.lay(x, 0, 1, 2, 3);
        CHECK.dueAll("mean", new long[] {x.mean(0, 0, 0), x.mean(0, 0, 1), x.mean(0, 1, 0), x.mean(0, 1, 1),
            x.mean(0, 2, 0), x.mean(0, 2, 1)}, 26, 3, 47, 6, 13, 1);
        CHECK.dueAll("mean refused", new long[] {x.mean(4, 0, 0), x.mean(-1, 0, 0), x.mean(0, 4, 0), x.mean(0, -1, 0),
            x.mean(0, 0, 2), x.mean(0, 0, -1), x.mean(1, 0, 0), x.mean(1, 4, 0), x.mean(1, 0, 2)},
                -2, -2, -2, -2, -2, -2, -6, -2, -2);
        due("choose of one", x.choose(0), 0);
        Check.lay(x, 1, 0, 0, 1);
        Check.lay(x, 2, 0, 0, 9);
        Check.lay(x, 3, 9, 9, 9);
        CHECK.dueAll("choose", new long[] {x.choose(0), x.choose(1), x.choose(2), x.choose(3)}, 1, 3, 1, 1);
        long[][] rows = {{}, {1, 1}, {1, 1, 1, 1}, {0, 0, 0}, {10, 0, 0}, {0, -1, 5}, {1, 1, 256}};
        for (long[] row : rows) {
            Check.lay(x, 1, row);
            CHECK.dueAll("row of " + row.length, new long[] {x.mean(1, 0, 0), x.mean(1, 0, 1), x.pass(1, 0, 2, 0),
                x.takes(1, 0, 1), x.choose(0)}, -2, -2, -2, -2, 2);
        }
        x.set(0, 0);
        Check.lay(x, 1, 9, 0, 0);
        CHECK.dueAll("mean of 0", new long[] {x.mean(1, 0, 0), x.mean(1, 0, 1), x.pass(1, 0, 5, 0), x.pass(1, 0, 5, 1),
            x.takes(1, 0, 2), x.choose(0)}, 0, 1, 0, 1, 0, 1);
    }

    private static void promises48And49() {
        PassedPenance x = sample();
        Check.lay(x, 2, 1, 2, 3);
        long[][] want = {{26, 3}, {44, 9}, {31, 9}, {49, 18}, {85, 36}};
        long[] takes = {1000000, 8, 4, 3, 2};
        for (int n = 1; n <= 5; n++) {
            due("pass(2, 0, " + n + ", 0)", x.pass(2, 0, n, 0), want[n - 1][0]);
            due("pass(2, 0, " + n + ", 1)", x.pass(2, 0, n, 1), want[n - 1][1]);
            due("takes(2, 0, " + n + ")", x.takes(2, 0, n), takes[n - 1]);
        }
        due("a cost like the mean", x.takes(2, 2, 2), 13);
        CHECK.dueAll("pass refused", new long[] {x.pass(4, 0, 1, 0), x.pass(-1, 0, 1, 0), x.pass(2, 4, 1, 0),
            x.pass(2, -1, 1, 0), x.pass(2, 0, 0, 0), x.pass(2, 0, 6, 0), x.pass(2, 0, 1, 2), x.pass(2, 0, 1, -1),
            x.pass(0, 0, 1, 0), x.pass(0, 0, 6, 0), x.pass(0, 0, 1, 2)}, -2, -2, -2, -2, -2, -2, -2, -2, -6, -2, -2);
        CHECK.dueAll("takes refused", new long[] {x.takes(4, 0, 1), x.takes(-1, 0, 1), x.takes(2, 4, 1), x.takes(2, -1, 1),
            x.takes(2, 0, 0), x.takes(2, 0, 6), x.takes(0, 0, 1), x.takes(0, 0, 0)}, -2, -2, -2, -2, -2, -2, -6, -2);
        // All nines of the greatest costs: the numbers grow long. 1890 x 1/2 at first, then halved each time.
        PassedPenance y = Check.told("church hours 1 boxes 1 odds 0; penance days 99; penance days 0;"
                + "person sin 0 at 0 bears 9 minds 0 999;");
        Check.lay(y, 0, 9, 9);
        CHECK.dueAll("great ones", new long[] {y.pass(0, 0, 1, 0), y.pass(0, 0, 5, 0), y.pass(0, 0, 5, 1),
            y.takes(0, 0, 5)}, 945, 945, 16, 118);
    }

    // ---- 50 to 57 ----

    private static void promises50To55() {
        PassedPenance x = sample();
        CHECK.dueAll("at first", new long[] {x.now(0), x.now(1), x.now(2), x.now(-1), x.has(0), x.has(4), x.has(-1),
            x.done(), x.sum()}, 2, -1, -2, -2, -3, -2, -2, 0, 0);
        CHECK.dueAll("2 confesses", new long[] {x.confess(2), x.now(0), x.has(2), x.done(), x.sum(), x.confess(2)},
                2, 2, 2, 4, 3, -5);
        CHECK.dueAll("0 confesses", new long[] {x.confess(0), x.now(0), x.sum(), x.clear(0, 1), x.clear(1, 0)},
                2, 0, 5, -5, -5);
        CHECK.dueAll("1 confesses", new long[] {x.confess(1), x.now(0), x.has(1), x.sum(), x.done()}, 0, 1, 0, 8, 7);
        CHECK.dueAll("3 confesses", new long[] {x.confess(3), x.now(1), x.has(3), x.sum(), x.done()}, -1, 0, -1, 8, 15);
        CHECK.dueAll("wrong", new long[] {x.confess(4), x.confess(-1), x.clear(0, 0), x.clear(4, 0), x.clear(0, 4),
            x.clear(-1, 0), x.clear(0, -1), x.count(5)}, -2, -2, -2, -2, -2, -2, -2, 4);
        CHECK.dueAll("0 and 1 change", new long[] {x.clear(0, 1), x.has(0), x.has(1), x.sum(), x.now(0), x.count(5)},
                0, 0, 2, 17, 1, 5);
        CHECK.dueAll("0 and 3 change", new long[] {x.clear(3, 0), x.has(0), x.has(3), x.sum()}, 0, -1, 0, 14);
        PassedPenance nothing = new PassedPenance();
        CHECK.dueAll("no church", new long[] {nothing.confess(0), nothing.clear(0, 1), nothing.now(0), nothing.has(0),
            nothing.done(), nothing.sum()}, -2, -2, -2, -2, -2, -2);
    }

    private static void promises56And57() {
        PassedPenance x = sample();
        due("undo of none", x.undo(), -5);
        due("anew of none", x.anew(), 0);
        x.confess(2);
        x.confess(0);
        x.confess(1);
        x.clear(0, 1);
        x.clear(1, 2);
        CHECK.dueAll("before", new long[] {x.has(0), x.has(1), x.has(2), x.now(0)}, 0, 2, 2, 1);
        CHECK.dueAll("undo", new long[] {x.undo(), x.has(0), x.has(1), x.has(2), x.undo(), x.has(0), x.has(1)},
                4, 0, 2, 2, 3, 2, 0);
        CHECK.dueAll("undo a confession", new long[] {x.undo(), x.has(1), x.now(0), x.done(), x.sum()}, 2, -3, 0, 5, 5);
        CHECK.dueAll("who is back may confess", new long[] {x.confess(1), x.undo(), x.undo(), x.now(0), x.undo(), x.now(0),
            x.undo()}, 0, 2, 1, 2, 0, 2, -5);
        x.confess(3);
        x.confess(1);
        CHECK.dueAll("anew", new long[] {x.anew(), x.count(5), x.now(0), x.now(1), x.has(3), x.done(), x.sum(), x.undo(),
            x.anew()}, 2, 0, 2, -1, -3, 0, 0, -5, 0);
        PassedPenance nothing = new PassedPenance();
        CHECK.dueAll("no church", new long[] {nothing.undo(), nothing.anew()}, -2, -2);
    }

    private static void promise50Limit() {
        PassedPenance x = sample();
        x.confess(0);
        x.confess(1);
        for (int i = 0; i < 38; i++) {
            due("clear " + i, x.clear(0, 1), 0);
        }
        CHECK.dueAll("40 acts", new long[] {x.count(5), x.clear(0, 1), x.confess(2), x.confess(4), x.clear(0, 4),
            x.has(2), x.has(0), x.undo(), x.confess(2), x.undo(), x.anew()}, 40, -5, -5, -2, -2, -3, 2, 39, 1, 39, 39);
        due("39 are taken back", x.has(0), -3);
    }

    // ---- 58 to 60 ----

    private static void promises58To60() {
        PassedPenance x = sample();
        // The draws of the seeds: 0: 0 68 88 17, 1: 38 58 13 15, 2: 8 17 39 14, 3: 47 7 65 12, 4: 17 66 91 11, 5: 55 57 16 77.
        CHECK.dueAll("drawn, who", new long[] {x.drawn(0, 0), x.drawn(1, 0), x.drawn(2, 0), x.drawn(3, 0), x.drawn(4, 0),
            x.drawn(5, 0), x.drawn(2000000000, 0)}, 9, 13, 15, 11, 9, 4, 15);
        CHECK.dueAll("drawn, costs", new long[] {x.drawn(0, 1), x.drawn(1, 1), x.drawn(2, 1), x.drawn(3, 1), x.drawn(5, 1)},
                2, 11, 37, 28, 3);
        CHECK.dueAll("drawn refused", new long[] {x.drawn(-1, 0), x.drawn(2000000001, 0), x.drawn(0, 2), x.drawn(0, -1)},
                -2, -2, -2, -2);
        CHECK.dueAll("fate", new long[] {x.fate(0, 0), x.fate(0, 1), x.fate(0, 3), x.fate(1, 2), x.fate(2, 0), x.fate(5, 2),
            x.fate(5, 0)}, 2, -1, -1, 0, 1, 2, -1);
        CHECK.dueAll("fate refused", new long[] {x.fate(-1, 0), x.fate(2000000001, 0), x.fate(0, 4), x.fate(0, -1)},
                -2, -2, -2, -2);
        CHECK.dueAll("luck", new long[] {x.luck(0, 1, 0), x.luck(0, 6, 0), x.luck(2, 2, 0), x.luck(5, 1, 0),
            x.luck(2000000000, 2, 0), x.luck(0, 20, 3)}, 1, 4, 0, 1, 1, 20);
        CHECK.dueAll("luck refused", new long[] {x.luck(-1, 1, 0), x.luck(2000000001, 1, 0), x.luck(0, 0, 0),
            x.luck(0, 21, 0), x.luck(0, 1, 4), x.luck(0, 1, -1)}, -2, -2, -2, -2, -2, -2);
        x.confess(0);
        due("acts do not count", x.fate(2, 0), 1);
        int[][] odds = {{0, 0}, {1, 1}, {68, 9}, {69, 11}, {88, 11}, {89, 15}, {100, 15}};
        for (int[] o : odds) {
            PassedPenance y = Check.told(SAMPLE.replace("odds 50", "odds " + o[0]));
            due("drawn by odds " + o[0], y.drawn(0, 0), o[1]);
        }
        PassedPenance nothing = new PassedPenance();
        CHECK.dueAll("no church", new long[] {nothing.drawn(0, 0), nothing.fate(0, 0), nothing.luck(0, 1, 0)}, -2, -2, -2);
        PassedPenance none = Check.told(EMPTY);
        CHECK.dueAll("nobody", new long[] {none.drawn(0, 0), none.drawn(0, 1), none.fate(0, 0)}, 0, 0, -2);
    }

    // ---- 61 to 65 ----

    private static void promises61And62() {
        PassedPenance x = sample();
        CHECK.dueAll("set", new long[] {x.set(1, 0), x.penance(1), x.bears(0), x.set(1, 99), x.penance(1), x.set(1, 7),
            x.penance(1)}, 10, 0, 17, 0, 99, 99, 7);
        CHECK.dueAll("set refused", new long[] {x.set(3, 0), x.set(-1, 0), x.set(0, -1), x.set(0, 100), x.penance(0)},
                -2, -2, -2, -2, 3);
        CHECK.dueAll("move", new long[] {x.move(1, 3), x.person(1, 1), x.queue(0, 0), x.queue(0, 2), x.gets(1),
            x.move(1, 0), x.queue(0, 0)}, 0, 3, 0, 1, 2, 3, 1);
        CHECK.dueAll("move refused", new long[] {x.move(4, 0), x.move(-1, 0), x.move(0, 4), x.move(0, -1), x.person(0, 1)},
                -2, -2, -2, -2, 1);
        x.confess(0);
        CHECK.dueAll("there were acts", new long[] {x.set(0, 5), x.set(3, 5), x.set(0, 100), x.move(0, 2), x.move(4, 2),
            x.move(0, 4), x.penance(0), x.person(0, 1)}, -5, -2, -2, -5, -2, -2, 3, 1);
        x.undo();
        CHECK.dueAll("they are back", new long[] {x.set(0, 5), x.move(0, 2), x.penance(0), x.person(0, 1)}, 3, 1, 5, 2);
        PassedPenance nothing = new PassedPenance();
        CHECK.dueAll("no church", new long[] {nothing.set(0, 0), nothing.move(0, 0)}, -2, -2);
    }

    private static void promise63() {
        PassedPenance x = sample();
        x.confess(0);
        x.row(0, 0, 0);
        x.row(3, 3, 60);
        x.feed(0, 0, 0, 0, 0);
        CHECK.dueAll("count", new long[] {x.count(0), x.count(1), x.count(2), x.count(3), x.count(4), x.count(5), x.count(6),
            x.count(7), x.count(8), x.count(9), x.count(-1), x.count(FAR)}, 4, 2, 50, 3, 4, 1, 10, 20, 2, -1, -1, -1);
    }

    private static void promises64And65() {
        PassedPenance x = sample();
        CHECK.dueAll("refused", new long[] {x.image(-1), x.image(3), x.again(-1), x.again(3), x.again(0), x.again(2)},
                -2, -2, -2, -2, -6, -6);
        x.set(1, 20);
        x.move(0, 3);
        x.confess(2);
        x.confess(0);
        x.clear(0, 2);
        due("image(1)", x.image(1), 0);
        x.undo();
        x.undo();
        x.row(2, 0, 3);
        x.feed(0, 0, 0, 0, 0);
        due("again(1)", x.again(1), 0);
        CHECK.dueAll("as it was", new long[] {x.count(5), x.has(0), x.has(2), x.now(0), x.penance(1), x.person(0, 1),
            x.count(8), x.count(7), x.undo(), x.undo(), x.has(0), x.now(0)}, 3, 2, 2, 0, 20, 3, 1, 20, 2, 1, -3, 2);
        x.anew();
        x.set(1, 30);
        due("again(1) once more", x.again(1), 0);
        CHECK.dueAll("the image stays", new long[] {x.count(5), x.penance(1)}, 3, 20);
        x.end(0);
        Check.tell(x, EMPTY);
        due("image(0)", x.image(0), 0);
        due("again(1) over another church", x.again(1), 0);
        CHECK.dueAll("the first church", new long[] {x.count(6), x.count(4), x.has(2), x.minds(1, 2), x.person(3, 2),
            x.box(0), x.count(2)}, 10, 4, 2, 7, 1, 2, 50);
        Check.tell(x, "church hours 0");
        due("again(0)", x.again(0), 0);
        due("the tape is not of the image", x.count(7), 14);
        CHECK.dueAll("the other church", new long[] {x.count(6), x.count(4), x.count(5), x.fault(0)}, 1, 0, 0, 2);
        due("image(1) in place of it", x.image(1), 0);
        x.again(1);
        due("it has the other", x.count(6), 1);
        PassedPenance y = new PassedPenance();
        due("image of no church", y.image(2), 0);
        Check.tell(y, EMPTY);
        CHECK.dueAll("again none", new long[] {y.again(2), y.own(), y.count(6)}, 0, -2, 0);
    }

    // ---- 66 to 68: what a row has is seen by means ----

    private static long meanOf(PassedPenance x, int slot) {
        return x.mean(slot, 0, 0) * 1000 + x.mean(slot, 0, 1);
    }

    private static void promise66() {
        PassedPenance x = sample();
        CHECK.dueAll("row refused", new long[] {x.row(4, 0, 1), x.row(-1, 0, 1), x.row(0, 4, 1), x.row(0, -1, 1),
            x.row(0, 0, 61), x.row(0, 0, FAR), x.row(0, 0, -1), x.row(0, 0, DEEP), x.row(4, 0, -1), x.row(0, 4, -1),
            x.count(8)}, -2, -2, -2, -2, -2, -2, -3, -3, -2, -2, 0);
        for (int slot = 0; slot < 4; slot++) {
            due("row(" + slot + ")", x.row(slot, slot, 60), 0);
            due("write its last", x.write(slot, 59, 1), 0);
            due("write behind it", x.write(slot, 60, 1), -7);
            due("slots", x.count(8), slot + 1);
        }
        Check.lay(x, 0, 1, 2, 3);
        due("a row", meanOf(x, 0), 26003);
        CHECK.dueAll("it stays", new long[] {x.row(0, 0, -1), x.row(0, 0, 61), x.row(0, 5, 3), meanOf(x, 0)},
                -3, -2, -2, 26003);
        CHECK.dueAll("all are 0", new long[] {x.row(0, 0, 3), x.mean(0, 0, 0), x.write(0, 0, 1), meanOf(x, 0)}, 0, -2, 0, 6001);
        CHECK.dueAll("shorter and longer", new long[] {x.row(0, 0, 1), x.row(0, 0, 3), x.mean(0, 0, 0)}, 0, 0, -2);
        CHECK.dueAll("none", new long[] {x.row(0, 3, 0), x.count(8), x.write(0, 0, 1), x.fits(0, 0)}, 0, 4, -7, 6);
    }

    private static void promise67() {
        PassedPenance x = sample();
        CHECK.dueAll("write refused", new long[] {x.write(4, 0, 1), x.write(-1, 0, 1), x.write(0, 0, 1), x.write(0, -1, 1)},
                -2, -2, -6, -6);
        x.row(0, 0, 3);
        CHECK.dueAll("no such number", new long[] {x.write(0, -1, 1), x.write(0, 3, 1), x.write(0, FAR, 1),
            x.write(0, DEEP, 1)}, -7, -7, -7, -7);
        long[] over = {1L << 8, 1L << 16, 1L << 32, 0};
        for (int width = 0; width < 4; width++) {
            x.row(1, width, 3);
            x.write(1, 0, 1 + over[width]);
            x.write(1, 1, 2 - over[width]);
            x.write(1, 2, 3 + (over[width] << 3));
            due("cut to width " + width, meanOf(x, 1), 26003);
            x.row(2, width, 2);
            x.write(2, 0, 3);
            x.write(2, 1, -1);
            due("-1 in width " + width, x.fits(2, 1), 1);
            if (width < 3) {
                x.write(2, 1, over[width] - 1);
                due("all bits in width " + width, x.fits(2, 1), 1);
                x.write(1, 0, over[width] >> 1);
                due("the highest bit in width " + width, x.mean(1, 0, 0), -2);
                x.write(1, 0, 1 + (over[width] >> 1));
                due("no bit is lost in width " + width, x.mean(1, 0, 0), -2);
            }
        }
        x.write(1, 0, 1 + (1L << 8));
        due("width 3 keeps all", x.mean(1, 0, 0), -2);
        x.write(1, 0, Long.MIN_VALUE + 1);
        due("width 3 keeps the highest", x.mean(1, 0, 0), -2);
    }

    private static void promise68() {
        PassedPenance x = sample();
        CHECK.dueAll("no such slot", new long[] {x.paste(4, 0, 0, 0, 0), x.paste(0, 0, 4, 0, 0), x.paste(-1, 0, 0, 0, 0),
            x.paste(0, 0, -1, 0, 0)}, -2, -2, -2, -2);
        Check.lay(x, 0, 1, 2, 3);
        CHECK.dueAll("nothing", new long[] {x.paste(0, 0, 1, 0, 1), x.paste(1, 0, 0, 0, 1), x.paste(1, -1, 0, 0, 1),
            x.paste(1, 0, 4, 0, 1)}, -6, -6, -6, -2);
        x.row(1, 2, 3);
        CHECK.dueAll("of two widths", new long[] {x.paste(0, 0, 1, 0, 0), x.paste(0, -1, 1, 0, 9)}, -8, -8);
        x.row(1, 1, 5);
        CHECK.dueAll("beyond", new long[] {x.paste(0, 0, 1, 0, 4), x.paste(0, 1, 1, 0, 3), x.paste(0, 0, 1, 3, 3),
            x.paste(0, -1, 1, 0, 1), x.paste(0, 0, 1, -1, 1), x.paste(0, 0, 1, 0, -1), x.paste(0, FAR, 1, 0, FAR),
            x.paste(0, 0, 1, FAR, 1), x.paste(0, 4, 1, 0, 0), x.paste(0, 0, 1, 6, 0), x.paste(0, DEEP, 1, DEEP, DEEP)},
                -7, -7, -7, -7, -7, -7, -7, -7, -7, -7, -7);
        CHECK.dueAll("none, at the ends", new long[] {x.paste(0, 3, 1, 5, 0), x.paste(0, 0, 0, 0, 0)}, 0, 0);
        due("nothing has happened", meanOf(x, 0), 26003);
        x.row(1, 1, 3);
        due("paste all", x.paste(0, 0, 1, 0, 3), 0);
        due("all are there", meanOf(x, 1), 26003);
        x.write(0, 0, 9);
        due("a copy", meanOf(x, 1), 26003);
        // 1 2 3 becomes 1 1 2, as they were: (6 + 20 + 2 * 2) / 4.
        CHECK.dueAll("onto itself, on", new long[] {x.paste(1, 0, 1, 1, 2), meanOf(x, 1)}, 0, 15002);
        Check.lay(x, 2, 1, 2, 3);
        // 1 2 3 becomes 2 3 3: (12 + 60 + 6) / 8.
        CHECK.dueAll("onto itself, back", new long[] {x.paste(2, 1, 2, 0, 2), meanOf(x, 2)}, 0, 39004);
        Check.lay(x, 3, 0, 0, 7);
        // One number to the middle: 2 7 3: (12 + 140 + 6) / 12.
        CHECK.dueAll("one number", new long[] {x.paste(3, 2, 2, 1, 1), meanOf(x, 2)}, 0, 79006);
    }
}
