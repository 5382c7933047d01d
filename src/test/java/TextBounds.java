import java.math.BigInteger;

/** The bounds of the text: Terms I with TOKENS and FAULTS, and promises 1 to 5. */
final class TextBounds {
    private static final String EMPTY = Made.EMPTY;
    private static final String ONE = EMPTY + "penance days 1;";
    private static final String EIGHT = EMPTY + "penance days 1;".repeat(8);
    private static final String PERSON = "person sin 0 at 0 bears 1;";

    private final Sentences s;

    TextBounds(Sentences s) {
        this.s = s;
    }

    void run() {
        lines();
        linesTokenByToken();
        numbersOfChurch();
        numbersOfPersons();
        numbersOfMindsAndLeft();
        howManyAreNumbered();
        tokens();
        placesOfFaults();
        kindsOfFaults();
        newObject();
        feed();
        end();
        church();
        churchWithFault();
        fault();
    }

    private PassedPenance fine(String text, int lines) {
        PassedPenance x = new PassedPenance();
        s.due("church() of " + text, Check.tell(x, text), lines);
        s.due("fault(0) of " + text, x.fault(0), 0);
        s.due("fault(1) of " + text, x.fault(1), -1);
        return x;
    }

    private void faulty(String text, int kind, int place) {
        PassedPenance x = new PassedPenance();
        s.due("church() of " + text, Check.tell(x, text), -4);
        s.due("fault(0) of " + text, x.fault(0), kind);
        s.due("fault(1) of " + text, x.fault(1), place);
    }

    /** A number in a text, on both sides of both its bounds, and where an int or a long would wrap around. */
    private void bound(String ahead, String behind, int least, int most, Sentences.Call seen) {
        int lines = (int) (ahead + behind).chars().filter(c -> c == ';').count();
        for (String number : new String[] {"" + least, "" + most, "000" + least, "000" + most}) {
            PassedPenance x = fine(ahead + number + behind, lines);
            s.due("seen of " + ahead + number + behind, seen.of(x), Integer.parseInt(number));
        }
        for (int bits : new int[] {16, 31, 32, 63, 64}) {
            BigInteger wrapped = BigInteger.ONE.shiftLeft(bits).add(BigInteger.valueOf(least));
            faulty(ahead + wrapped + behind, 2, ahead.length());
        }
        faulty(ahead + (most + 1) + behind, 2, ahead.length());
        if (least > 0) {
            faulty(ahead + (least - 1) + behind, 2, ahead.length());
        }
        faulty(ahead + "-" + most + behind, 1, ahead.length());
    }

    // ---- Terms I ----

    private void lines() {
        s.of("I", "CHURCH: {LINE ;}.");
        fine("", 0);
        fine(" \n\n  ", 0);
        fine(EMPTY, 1);
        fine(ONE, 2);
        faulty(";", 1, 0);
        faulty(EMPTY + ";", 1, 30);
        faulty(EMPTY.substring(0, 29), 1, 29);
        faulty(EMPTY + "penance days 1", 1, 44);
        faulty(EMPTY + "penance days 1 penance days 1;", 1, 45);
        // 45 bytes and 144 times 8: as many lines as the tape can have.
        fine(ONE + "left0 0;".repeat(144), 146);
        s.of("I", "church is the first LINE and no other");
        fine(EMPTY, 1);
        faulty("penance days 1;" + EMPTY, 1, 0);
        faulty("left 0 0;", 1, 0);
        faulty(PERSON, 1, 0);
        faulty(EMPTY + EMPTY, 1, 30);
        faulty(ONE + PERSON + "church", 1, 71);
    }

    /** Every token of every kind of line: something else in its place, and the text's end ahead of it. */
    private void linesTokenByToken() {
        s.of("I", "LINE: church hours N boxes N odds N | penance days N | person sin P at N [box N] bears N {minds P "
                + "N} | left N P.");
        String[] tokens = ("church hours 4 boxes 3 odds 5 ; penance days 1 ; penance days 2 ; person sin 0 at 2 bears 3 ; "
                + "person sin 1 at 3 box 2 bears 9 ; person sin 0 at 0 box 1 bears 1 minds 1 4 minds 0 5 ; left 1 0 ;").split(" ");
        String ahead = "";
        int lines = 0;
        for (int i = 0; i < tokens.length; i++) {
            boolean isStart = i == 0 || tokens[i - 1].equals(";");
            boolean isNumber = Character.isDigit(tokens[i].charAt(0));
            if (isStart) {
                fine(ahead, lines);
            } else {
                faulty(ahead, 1, ahead.length());
            }
            faulty(ahead + "foo " + tokens[i], 1, ahead.length());
            faulty(ahead + (isNumber ? ";" : "1"), 1, ahead.length());
            if (!isNumber && !tokens[i].equals(";") && !tokens[i].equals("minds")) {
                faulty(ahead + ";", 1, ahead.length());
            }
            if (!isNumber && !tokens[i].equals(";")) {
                faulty(ahead + tokens[i] + "s 1", 1, ahead.length());
                faulty(ahead + tokens[i].substring(1) + " 1", 1, ahead.length());
                faulty(ahead + tokens[i].substring(0, tokens[i].length() - 1) + " 1", 1, ahead.length());
            }
            ahead += tokens[i] + " ";
            lines += tokens[i].equals(";") ? 1 : 0;
        }
        PassedPenance x = fine(ahead, 7);
        s.dueAll("what it tells", new long[] {x.count(0), x.count(1), x.count(2), x.penance(0), x.penance(1), x.box(1)},
                4, 3, 5, 1, 2, 0);
        s.dueAll("persons", new long[] {x.person(0, 0), x.person(0, 1), x.person(0, 2), x.person(0, 3), x.person(1, 0),
            x.person(1, 1), x.person(1, 2), x.person(1, 3), x.minds(2, 0), x.minds(2, 1)}, 0, 2, 0, 3, 1, 3, 2, 9, 5, 4);
        faulty(ONE + "person sin 0 at 0 box 0 box 0 bears 1;", 1, 69);
        faulty(ONE + "person sin 0 at 0 minds 0 0 bears 1;", 1, 63);
        faulty(ONE + "person sin 0 at 0 bears 1 box 0;", 1, 71);
    }

    private void numbersOfChurch() {
        s.of("I", "hours 1 .. 12");
        bound("church hours ", " boxes 1 odds 0;", 1, 12, x -> x.count(0));
        s.of("I", "boxes 1 .. 3");
        bound("church hours 1 boxes ", " odds 0;", 1, 3, x -> x.count(1));
        s.of("I", "odds 0 .. 100");
        bound("church hours 1 boxes 1 odds ", ";", 0, 100, x -> x.count(2));
        s.of("I", "penance: days 0 .. 99");
        bound(EMPTY + "penance days ", ";", 0, 99, x -> x.penance(0));
        bound(EMPTY + "penance days 5;".repeat(7) + "penance days ", ";", 0, 99, x -> x.penance(7));
    }

    private void numbersOfPersons() {
        String twelve = "church hours 12 boxes 3 odds 0;penance days 1;";
        s.of("I", "person: P a PENANCE told ahead (his own)");
        faulty(EMPTY + PERSON, 2, 41);
        faulty(EMPTY + PERSON + "penance days 1;", 2, 41);
        fine(ONE + "person sin 0 at 0 bears 1;", 3);
        faulty(ONE + "person sin 1 at 0 bears 1;penance days 1;", 2, 56);
        fine(ONE + "penance days 1;person sin 1 at 0 bears 1;", 4);
        bound(EIGHT + "person sin ", " at 0 bears 1;", 0, 7, x -> x.person(0, 0));
        s.of("I", "at an hour 0 .. hours less 1");
        fine(ONE + "person sin 0 at 0 bears 1;", 3);
        faulty(ONE + "person sin 0 at 1 bears 1;", 2, 61);
        bound(twelve + "person sin 0 at ", " bears 1;", 0, 11, x -> x.person(0, 1));
        bound("church hours 2 boxes 1 odds 0;penance days 1;person sin 0 at ", " bears 1;", 0, 1, x -> x.person(0, 1));
        s.of("I", "box 0 .. boxes less 1 (0 without)");
        fine(ONE + "person sin 0 at 0 box 0 bears 1;", 3);
        faulty(ONE + "person sin 0 at 0 box 1 bears 1;", 2, 67);
        bound(twelve + "person sin 0 at 0 box ", " bears 1;", 0, 2, x -> x.person(0, 2));
        PassedPenance anew = fine(twelve + "person sin 0 at 0 box 2 bears 1;" + PERSON, 4);
        s.due("0 without", anew.person(1, 2), 0);
        s.dueAll("0 without, told anew", new long[] {Check.tell(anew, twelve + PERSON), anew.person(0, 2)}, 3, 0);
        s.of("I", "bears 1 .. 9");
        bound(ONE + "person sin 0 at 0 bears ", ";", 1, 9, x -> x.person(0, 3));
    }

    private void numbersOfMindsAndLeft() {
        String three = "church hours 1 boxes 3 odds 0;penance days 1;";
        s.of("I", "minds P by 0 .. 999 (a later one of it strikes)");
        faulty(ONE + "person sin 0 at 0 bears 1 minds 1 5;penance days 1;", 2, 77);
        fine(ONE + "penance days 1;person sin 0 at 0 bears 1 minds 1 5;", 4);
        bound(EIGHT + "person sin 0 at 0 bears 1 minds ", " 5;", 0, 7, x -> {
            int found = -1;
            for (int i = 0; i < 8; i++) {
                found = x.minds(0, i) == 5 ? i : found;
            }
            return found;
        });
        bound(ONE + "person sin 0 at 0 bears 1 minds 0 ", ";", 0, 999, x -> x.minds(0, 0));
        PassedPenance x = fine(ONE + "penance days 1;person sin 0 at 0 bears 1 minds 0 7 minds 1 999 minds 0 3 minds 1 0;", 4);
        s.dueAll("the later ones", new long[] {x.minds(0, 0), x.minds(0, 1)}, 3, 0);
        s.of("I", "left: a BOX, a PENANCE told ahead that lies in it at first (a later one strikes)");
        faulty(EMPTY + "left 0 0;", 2, 37);
        faulty(EMPTY + "left 0 0;penance days 1;", 2, 37);
        fine(ONE + "left 0 0;", 3);
        faulty(ONE + "left 0 1;penance days 1;", 2, 52);
        bound(three + "left ", " 0;", 0, 2, y -> y.box(0) == 0 ? 0 : y.box(1) == 0 ? 1 : y.box(2) == 0 ? 2 : -1);
        faulty(ONE + "left 1 0;", 2, 50);
        bound(EIGHT + "left 0 ", ";", 0, 7, y -> y.box(0));
        PassedPenance z = fine(three + "penance days 1;left 1 0;left 2 1;left 1 1;left 2 0;", 7);
        s.dueAll("the later ones", new long[] {z.box(0), z.box(1), z.box(2)}, -1, 1, 0);
    }

    private void howManyAreNumbered() {
        s.of("I", "PENANCES 0 .. 7, PERSONS 0 .. 6 are numbered as they stand.");
        PassedPenance x = Made.full();
        for (int i = 0; i < 8; i++) {
            s.due("penance " + i, x.penance(i), 10 + i);
        }
        for (int p = 0; p < 7; p++) {
            s.due("person " + p, x.person(p, 3), p + 1);
        }
        s.dueAll("beyond", new long[] {x.penance(8), x.person(7, 0), x.count(3), x.count(4)}, -2, -2, 8, 7);
        PassedPenance y = fine(EMPTY + "penance days 4;" + PERSON + "penance days 6;person sin 1 at 0 bears 2;", 5);
        s.dueAll("told by turns", new long[] {y.penance(0), y.penance(1), y.penance(2), y.person(0, 3), y.person(1, 3),
            y.person(2, 3)}, 4, 6, -2, 1, 2, -2);
    }

    // ---- tokens and faults ----

    private static boolean isLetter(int b) {
        return b >= 97 && b <= 122;
    }

    private static boolean isDigit(int b) {
        return b >= 48 && b <= 57;
    }

    private void tokens() {
        s.of("TOKENS", "blanks (32, 10) aside");
        fine("\n church\n\nhours  1 boxes\n1 odds 0 \n; \n", 1);
        for (int b = 0; b < 256; b++) {
            String text = "church hours" + (char) b + "1 boxes 1 odds 0;";
            if (b == 32 || b == 10) {
                fine(text, 1);
            } else if (!isDigit(b)) {
                faulty(text, 1, isLetter(b) ? 7 : 12);
            }
        }
        s.of("TOKENS", "the longest: words (a .. z), numbers (digits), the sign ; .");
        for (int b = 0; b < 256; b++) {
            if (b != 32 && b != 10) {
                faulty("church" + (char) b + "hours 1 boxes 1 odds 0;", 1, isLetter(b) ? 0 : 6);
            }
            if (isDigit(b)) {
                String text = "church hours" + (char) b + "1 boxes 1 odds 0;";
                if (b < 50) {
                    s.due("hours", fine(text, 1).count(0), 10 * (b - 48) + 1);
                } else {
                    faulty(text, 2, 12);
                }
            }
            String last = "church hours 1 boxes 1 odds 0" + (char) b;
            if (b == ';') {
                fine(last, 1);
            } else {
                faulty(last, 1, b == 32 || b == 10 || isDigit(b) ? 30 : 29);
            }
        }
        fine("church hours12boxes3odds100;penance days99;person sin0at11box2bears9minds0 999;left2 0;", 4);
        faulty("churchhours 1", 1, 0);
        faulty("church hours 1 2 boxes", 1, 15);
        faulty("church hours 1boxes1odds1 0;", 1, 26);
    }

    private void placesOfFaults() {
        s.of("FAULTS", "the first by its place (a TOKEN's first byte; the end's), of one place the least:");
        faulty("church hours 13 boxes 4 odds 101;", 2, 13);
        faulty("church hours 12 boxes 4 odds 101;", 2, 22);
        faulty("church hours 12 boxes 3 odds 101", 2, 29);
        faulty("church hours 12 boxes 3 odds 100?", 1, 32);
        faulty("church hours 0 \u00ff", 2, 13);
        faulty("church hours \u00ff 0", 1, 13);
        faulty("  church foo", 1, 9);
        faulty("church", 1, 6);
        faulty("church  \n ", 1, 10);
        faulty(EMPTY + "left \n", 1, 36);
        // No such number may stand there at all; no penance may, be it the ninth or not.
        faulty("church hours 1 boxes 1 odds 0 999;", 1, 30);
        faulty(EIGHT + "left penance", 1, 155);
        faulty(EIGHT + "penances days 1;", 1, 150);
    }

    private void kindsOfFaults() {
        s.of("FAULTS", "1 a TOKEN that is none, or can't stand there (church behind the first LINE, another word "
                + "ahead of it).");
        faulty("church, hours", 1, 6);
        faulty("Church hours", 1, 0);
        faulty("hours 1", 1, 0);
        faulty("penance days 1;", 1, 0);
        faulty(ONE + "church", 1, 45);
        faulty("1 church", 1, 0);
        s.of("FAULTS", "2 a number out of its bounds, not as said.");
        faulty("church hours 0", 2, 13);
        faulty("church hours 13", 2, 13);
        faulty("church hours 1", 1, 14);
        faulty(EMPTY + "penance days 100", 2, 43);
        faulty(EMPTY + "penance days 99", 1, 45);
        faulty(ONE + "left 0 1", 2, 52);
        faulty(ONE + "left 0 0", 1, 53);
        faulty(EMPTY + "penance days " + "9".repeat(1157), 2, 43);
        fine(EMPTY + "penance days " + "0".repeat(1154) + "99;", 2);
        s.of("FAULTS", "3 a 9th penance, 8th person, at its word.");
        fine(EIGHT, 9);
        faulty(EIGHT + "penance", 3, 150);
        faulty(EIGHT + "\n\npenance days 1;", 3, 152);
        faulty(EIGHT + "penance days 100;", 3, 150);
        faulty(EIGHT + "penance ?", 3, 150);
        fine(ONE + PERSON.repeat(7), 9);
        faulty(ONE + PERSON.repeat(7) + "person", 3, 227);
        faulty(ONE + PERSON.repeat(7) + "  " + PERSON, 3, 229);
        faulty(ONE + PERSON.repeat(7) + "person sin 9", 3, 227);
        fine(EIGHT + PERSON.repeat(7) + "left 0 7;", 17);
    }

    // ---- promises 1 to 5 ----

    private void newObject() {
        s.of(1, "No CHURCH.");
        PassedPenance x = new PassedPenance();
        for (int what = 0; what <= 8; what++) {
            s.due("count(" + what + ")", x.count(what), 0);
        }
        s.noChurch(y -> y.penance(0), y -> y.person(0, 0), y -> y.minds(0, 0), y -> y.cost(0, -1), y -> y.box(0),
                y -> y.queue(0, 0), y -> y.gets(0), y -> y.own(), y -> y.best(0), y -> y.stir(), y -> y.swaps(),
                y -> y.deal(), y -> y.choose(0), y -> y.confess(0), y -> y.done(), y -> y.drawn(0, 0), y -> y.set(0, 0));
        s.dueAll("images, slots", new long[] {x.again(0), x.again(1), x.again(2), x.write(0, 0, 0), x.write(3, 0, 0)},
                -6, -6, -6, -6, -6);
    }

    private void feed() {
        s.of(2, "Twenty bytes come behind the TAPE, four of each number, the highest first: how many it has");
        PassedPenance x = new PassedPenance();
        s.due("feed 1", x.feed(0x63687572, 0x63682068, 0x6f757273, 0x20332062, 0x6f786573), 20);
        s.due("feed 2", x.feed(0x2031206f, 0x64647320, 0x32373b70, 0x656e616e, 0x63652064), 40);
        s.due("feed 3", x.feed(0x61797320, 0x34323b20, 0x200a2020, 0x20202020, 0x2020203b), 60);
        s.dueAll("without the last byte", new long[] {x.end(59), x.church(), x.count(0), x.count(1), x.count(2),
            x.penance(0)}, 59, 2, 3, 1, 27, 42);
        for (int at = 0; at < 20; at++) {
            // One byte of all bits among blanks: at its own place, the bytes ahead of it untouched.
            int[] n = {0x20202020, 0x20202020, 0x20202020, 0x20202020, 0x20202020};
            n[at / 4] |= 0xff << 24 - at % 4 * 8;
            PassedPenance y = new PassedPenance();
            y.feed(0x20202020, 0x0a0a0a0a, 0x200a200a, 0x0a200a20, 0x20202020);
            s.due("feed", y.feed(n[0], n[1], n[2], n[3], n[4]), 40);
            s.dueAll("byte " + at, new long[] {y.church(), y.fault(0), y.fault(1)}, -4, 1, 20 + at);
        }
        s.of(2, "NONE, and none come, if it would have more than 1,200.");
        PassedPenance z = new PassedPenance();
        for (int i = 1; i <= 60; i++) {
            s.due("feed " + i, z.feed(0x20202020, 0x20202020, 0x20202020, 0x20202020, 0x20202020), 20 * i);
        }
        s.dueAll("feed 61", new long[] {z.feed(0, 0, 0, 0, 0), z.count(7)}, -1, 1200);
        s.dueAll("one byte too many", new long[] {z.end(1181), z.feed(0, 0, 0, 0, 0), z.count(7)}, 1181, -1, 1181);
        s.dueAll("just so many", new long[] {z.end(1180), z.feed(0x20202020, 0, 0, 0, 0), z.count(7)}, 1180, 1200, 1200);
        s.dueAll("none had come behind 1180", new long[] {z.church(), z.fault(1)}, -4, 1184);
    }

    private void end() {
        s.of(3, "The TAPE has its first n bytes alone: n");
        PassedPenance x = new PassedPenance();
        Check.feed(x, EMPTY + "foo");
        s.dueAll("all", new long[] {x.end(33), x.count(7)}, 33, 33);
        s.dueAll("less", new long[] {x.end(30), x.count(7), x.end(31), x.church()}, 30, 30, -1, 1);
        Check.feed(x, EMPTY + "?");
        x.end(30);
        Check.feed(x, "penance days 7;");
        s.dueAll("others come behind them", new long[] {x.church(), x.penance(0)}, 2, 7);
        s.dueAll("none", new long[] {x.end(0), x.church(), x.count(6)}, 0, 0, 0);
        s.of(3, "NONE, and nothing happens, if it has not so many, or n is below 0.");
        s.refused(-1, Made::busy, y -> y.end(21), y -> y.end(-1), y -> y.end(Made.FAR), y -> y.end(Made.DEEP),
                y -> y.end(1200), y -> y.end(1201));
        s.refused(20, Made::busy, y -> y.end(20));
        s.refused(-1, PassedPenance::new, y -> y.end(1), y -> y.end(-1));
        s.refused(0, PassedPenance::new, y -> y.end(0));
    }

    private void church() {
        s.of(4, "The TAPE (empty then) is the CHURCH (in place of another), nothing done: how many LINES");
        PassedPenance x = Made.full();
        x.confess(0);
        x.image(0);
        Check.lay(x, 0, 1, 2);
        s.due("church() with a blank tape's text", Check.tell(x, ONE + PERSON), 3);
        s.dueAll("it is the church", new long[] {x.count(0), x.count(1), x.count(2), x.count(3), x.count(4), x.count(6)},
                1, 1, 0, 1, 1, 3);
        s.dueAll("nothing of the other", new long[] {x.penance(1), x.person(1, 0), x.box(0), x.box(2), x.minds(0, 0),
            x.cost(0, 0)}, -2, -2, -1, -2, 0, 1);
        s.dueAll("nothing done", new long[] {x.count(5), x.done(), x.has(0), x.sum(), x.now(0), x.undo()}, 0, 0, -3, 0, -1, -5);
        s.dueAll("the tape is empty", new long[] {x.count(7), x.end(1)}, 0, -1);
        s.dueAll("slots, images stay", new long[] {x.count(8), x.again(0), x.count(5), x.count(4)}, 1, 0, 1, 7);
        inPlaceOfAnother();
        s.of(4, "(0: there is none then)");
        PassedPenance y = Made.busy();
        s.dueAll("of no bytes", new long[] {y.end(0), y.church(), y.count(6), y.own(), y.penance(0), y.count(5), y.count(0)},
                0, 0, 0, -2, -2, 0, 0);
        PassedPenance z = Made.busy();
        z.end(0);
        s.dueAll("of blanks", new long[] {Check.tell(z, " \n"), z.count(7), z.own(), z.undo()}, 0, 0, -2, -2);
    }

    /** Nothing of a church that was there, and was asked, is left in another one. */
    private void inPlaceOfAnother() {
        String[] texts = {Made.fullText(), Made.SAMPLE, Made.SEVEN + "left 0 0;", Made.SIXTY, Made.TWO, EMPTY, "",
            ONE + "person sin 0 at 0 bears 9 minds 0 999;"};
        for (String first : texts) {
            for (String second : texts) {
                PassedPenance x = Check.told(first);
                x.row(0, 0, 0);
                long[] asked = {x.likes(0), x.likes(2), x.deal(), x.swap(0), x.fits(0, 0), x.settles(), x.confess(0)};
                Check.tell(x, second);
                s.due(asked.length + " questions ahead", x.count(8), 1);
                s.dueAll("answers", Made.answers(x), Made.answers(Check.told(second)));
                x = Check.told(first);
                x.confess(0);
                Check.tell(x, second);
                s.dueAll("state", Made.state(x), Made.state(Check.told(second)));
            }
        }
    }

    private void churchWithFault() {
        s.of(4, "-4: a FAULT (all stays).");
        // Twenty bytes of a text that ends too early are on the tape.
        s.refused(-4, Made::busy, x -> x.church(), x -> Math.min(x.church(), x.church()));
        s.refused(-4, () -> {
            PassedPenance x = Made.busy();
            x.end(0);
            Check.feed(x, "church hours 1 boxes 1 odds 0;penance days 9;penance days 9; left 0 9;");
            return x;
        }, x -> x.church());
        PassedPenance x = Made.busy();
        x.church();
        Check.feed(x, " 1 odds 0;");
        s.dueAll("the tape's text goes on", new long[] {x.church(), x.count(0), x.count(5)}, 1, 3, 0);
    }

    private void fault() {
        s.of(5, "Of the latest church(), what 0: its FAULT, 0 without");
        PassedPenance x = new PassedPenance();
        s.dueAll("fault(0) of 1", new long[] {Check.tell(x, "church?"), x.fault(0)}, -4, 1);
        x.end(0);
        s.dueAll("fault(0) of 2", new long[] {Check.tell(x, "church hours 0"), x.fault(0)}, -4, 2);
        x.end(0);
        s.dueAll("fault(0) of 3", new long[] {Check.tell(x, EIGHT + "penance"), x.fault(0)}, -4, 3);
        x.end(0);
        s.due("fed alone", x.fault(0), 3);
        s.dueAll("fault(0) without", new long[] {Check.tell(x, EMPTY), x.fault(0)}, 1, 0);
        s.of(5, "1: its place (NONE without).");
        PassedPenance y = new PassedPenance();
        s.dueAll("place 0", new long[] {Check.tell(y, "?"), y.fault(1)}, -4, 0);
        y.end(0);
        s.dueAll("place 1200", new long[] {Check.tell(y, EMPTY + " ".repeat(1163) + "penance"), y.fault(1)}, -4, 1200);
        y.end(0);
        s.dueAll("place 1193", new long[] {Check.tell(y, EMPTY + " ".repeat(1163) + "penanc"), y.fault(1)}, -4, 1193);
        y.end(0);
        s.dueAll("without", new long[] {y.church(), y.fault(1)}, 0, -1);
        s.of(5, "NONE for another what");
        PassedPenance z = Check.told("church?");
        s.dueAll("with a fault", new long[] {z.fault(-1), z.fault(0), z.fault(1), z.fault(2), z.fault(Made.FAR),
            z.fault(Made.DEEP)}, -1, 1, 6, -1, -1, -1);
        PassedPenance none = Made.nobody();
        s.dueAll("without one", new long[] {none.fault(-1), none.fault(2)}, -1, -1);
        s.of(5, ", and ahead of any (what 1).");
        PassedPenance ahead = new PassedPenance();
        s.dueAll("ahead of any", new long[] {ahead.fault(0), ahead.fault(1), ahead.fault(2)}, 0, -1, -1);
        ahead.feed(0, 0, 0, 0, 0);
        s.dueAll("fed, not yet read", new long[] {ahead.fault(0), ahead.fault(1)}, 0, -1);
    }
}
