import java.util.Arrays;

/**
 * A church in which each person gets the penance that lies in the box and leaves his own one there.
 * Nothing is made behind the constructor but the three images, so that a long run stays small.
 */
public final class PassedPenance {
    public static final int NONE = -1;

    private static final int NO_SUCH = -2;
    private static final int NOT_CONFESSED = -3;
    private static final int BELOW_ZERO = -3;
    private static final int FAULTY = -4;
    private static final int NOT_NOW = -5;
    private static final int NOTHING_THERE = -6;
    private static final int BEYOND = -7;
    private static final int OTHER_WIDTH = -8;

    private static final int MOST_PENANCES = 8;
    private static final int MOST_PERSONS = 7;
    private static final int MOST_BOXES = 3;
    private static final int MOST_HOURS = 12;
    private static final int MOST_DAYS = 99;
    private static final int EVERYBODY = (1 << MOST_PERSONS) - 1;
    private static final int SETS = 1 << MOST_PERSONS;
    private static final int MOST_BACK = 20;
    private static final int MOST_SEEN = 5;
    private static final int ANY_COST = 1_000_000;
    private static final int MOST_SEED = 2_000_000_000;
    private static final int MOST_WEEKS = 20;
    private static final int IMAGES = 3;
    // Above every sum of costs.
    private static final int UNREACHED = 1_000_000_000;

    private final Reader reader;
    private final Church church;
    private final Church trial;
    private final Acts acts;
    private final Rows rows;
    private final Bench bench;
    private final Orders orders;
    private final Sightings sightings;
    private final Swaps swaps;
    private final Deal deal;
    private final Mean mean;
    private final Mean leastMean;
    private final Image[] images;

    public PassedPenance() {
        reader = new Reader();
        church = new Church();
        trial = new Church();
        acts = new Acts();
        rows = new Rows();
        bench = new Bench(church);
        orders = new Orders(bench);
        sightings = new Sightings(bench);
        swaps = new Swaps();
        deal = new Deal(church);
        mean = new Mean();
        leastMean = new Mean();
        images = new Image[IMAGES];
    }

    // ---- the text ----

    public int feed(int a, int b, int c, int d, int e) {
        if (!reader.hasRoom()) {
            return NONE;
        }
        reader.addNumber(a);
        reader.addNumber(b);
        reader.addNumber(c);
        reader.addNumber(d);
        reader.addNumber(e);
        return reader.length;
    }

    public int end(int n) {
        if (n < 0 || n > reader.length) {
            return NONE;
        }
        reader.length = n;
        return n;
    }

    public int church() {
        reader.readAll();
        if (reader.fault != Reader.NO_FAULT) {
            return FAULTY;
        }
        reader.length = 0;
        church.takeOver(reader.told);
        acts.begin(church);
        return church.lines;
    }

    public int fault(int what) {
        if (what == 0) {
            return reader.fault;
        }
        return what == 1 ? reader.place : NONE;
    }

    // ---- what was told ----

    public int penance(int penance) {
        return church.hasPenance(penance) ? church.days[penance] : NO_SUCH;
    }

    public int person(int person, int what) {
        if (!church.hasPerson(person)) {
            return NO_SUCH;
        }
        switch (what) {
            case 0:
                return church.sin[person];
            case 1:
                return church.hourOf[person];
            case 2:
                return church.boxOf[person];
            case 3:
                return church.strength[person];
            default:
                return NO_SUCH;
        }
    }

    public int minds(int person, int penance) {
        if (!church.hasPerson(person) || !church.hasPenance(penance)) {
            return NO_SUCH;
        }
        return church.grudge(person, penance);
    }

    public int cost(int person, int penance) {
        if (!church.hasPerson(person) || !church.hasPenanceOrNone(penance)) {
            return NO_SUCH;
        }
        return church.costOf(person, penance);
    }

    public int box(int box) {
        return church.hasBox(box) ? church.left[box] : NO_SUCH;
    }

    // ---- who gets what ----

    public int queue(int box, int k) {
        return church.hasBox(box) ? church.inQueue(box, k) : NO_SUCH;
    }

    public int gets(int person) {
        return church.hasPerson(person) ? church.gotBy(person, EVERYBODY) : NO_SUCH;
    }

    public int giver(int person) {
        return church.hasPerson(person) ? church.forerunner(person) : NO_SUCH;
    }

    public int back(int person, int n) {
        if (!church.hasPerson(person) || n < 0 || n > MOST_BACK) {
            return NO_SUCH;
        }
        return church.inQueue(church.boxOf[person], church.placeOf(person) - n);
    }

    public int last(int box) {
        return church.hasBox(box) ? church.leftBehind(box) : NO_SUCH;
    }

    public int bears(int box) {
        return church.hasBox(box) ? church.costsOf(church.personsOf(box)) : NO_SUCH;
    }

    public int own() {
        if (church.isNone()) {
            return NO_SUCH;
        }
        int bits = 0;
        for (int p = 0; p < church.persons; p++) {
            if (church.gotBy(p, EVERYBODY) == church.sin[p]) {
                bits |= 1 << p;
            }
        }
        return bits;
    }

    public int gain() {
        if (church.isNone()) {
            return NO_SUCH;
        }
        int bits = 0;
        for (int p = 0; p < church.persons; p++) {
            if (church.loss(p) < 0) {
                bits |= 1 << p;
            }
        }
        return bits;
    }

    public int worst() {
        if (church.isNone()) {
            return NO_SUCH;
        }
        int found = NONE;
        int most = 0;
        for (int p = 0; p < church.persons; p++) {
            int loss = church.loss(p);
            if (loss > most) {
                most = loss;
                found = p;
            }
        }
        return found;
    }

    public int passes(int penance) {
        if (church.isNone() || !church.hasPenanceOrNone(penance)) {
            return NO_SUCH;
        }
        int bits = 0;
        for (int p = 0; p < church.persons; p++) {
            if (church.gotBy(p, EVERYBODY) == penance) {
                bits |= 1 << p;
            }
        }
        return bits;
    }

    public int ahead(int person) {
        return church.hasPerson(person) ? church.placeOf(person) : NO_SUCH;
    }

    public int kneel(int person) {
        if (!church.hasPerson(person)) {
            return NO_SUCH;
        }
        int mine = church.gotBy(person, EVERYBODY);
        int least = church.costOf(person, mine);
        int found = NONE;
        for (int other = 0; other < church.persons; other++) {
            int theirs = church.gotBy(other, EVERYBODY);
            int swapped = church.costOf(person, theirs);
            if (swapped < least && church.costOf(other, mine) <= church.costOf(other, theirs)) {
                least = swapped;
                found = other;
            }
        }
        return found;
    }

    public int sins(int person) {
        return church.hasPerson(person) ? church.costsIfSin(person, church.bestSin(person)) : NO_SUCH;
    }

    public int sinned(int person) {
        return church.hasPerson(person) ? church.bestSin(person) : NO_SUCH;
    }

    // ---- orders of those of a box ----

    public int best(int box) {
        return weighs(box) ? orders.least[Bench.START] : NO_SUCH;
    }

    public int orders(int box, int k) {
        return weighs(box) ? orders.personAt(k) : NO_SUCH;
    }

    public int most(int box) {
        return weighs(box) ? orders.greatest[Bench.START] : NO_SUCH;
    }

    public int fair(int box) {
        return weighs(box) ? orders.hardest[Bench.START] : NO_SUCH;
    }

    public int likes(int box) {
        return weighs(box) ? orders.alike[Bench.START] : NO_SUCH;
    }

    public int ways(int box) {
        return weighs(box) ? orders.many[Bench.START] : NO_SUCH;
    }

    private boolean weighs(int box) {
        if (!church.hasBox(box)) {
            return false;
        }
        bench.seat(box);
        orders.weigh();
        return true;
    }

    // ---- hours ----

    public int comes(int person, int hour) {
        if (!church.hasPerson(person) || !church.hasHour(hour)) {
            return NO_SUCH;
        }
        return church.costInHour(person, hour);
    }

    public int hour(int person) {
        return church.hasPerson(person) ? church.bestHour(person) : NO_SUCH;
    }

    public int stir() {
        return church.isNone() ? NO_SUCH : church.restless();
    }

    public int settles() {
        if (church.isNone()) {
            return NO_SUCH;
        }
        trial.takeOver(church);
        return trial.settleDown();
    }

    public int settled(int person) {
        if (!church.hasPerson(person)) {
            return NO_SUCH;
        }
        trial.takeOver(church);
        return trial.settleDown() == NONE ? NONE : trial.hourOf[person];
    }

    // ---- swaps, trades, deals ----

    public int swaps() {
        if (church.isNone()) {
            return NO_SUCH;
        }
        swaps.lookAt(church);
        return swaps.fewest();
    }

    public int swap(int what) {
        if (church.isNone() || what < 0 || what > 1) {
            return NO_SUCH;
        }
        swaps.lookAt(church);
        swaps.findPair();
        return what == 0 ? swaps.lesser : swaps.greater;
    }

    public int trades() {
        if (church.isNone()) {
            return NO_SUCH;
        }
        int pairs = 0;
        for (int p = 0; p < church.persons; p++) {
            for (int q = p + 1; q < church.persons; q++) {
                if (wouldTrade(p, q)) {
                    pairs++;
                }
            }
        }
        return pairs;
    }

    private boolean wouldTrade(int p, int q) {
        int byP = church.gotBy(p, EVERYBODY);
        int byQ = church.gotBy(q, EVERYBODY);
        return church.costOf(p, byQ) < church.costOf(p, byP) && church.costOf(q, byP) < church.costOf(q, byQ);
    }

    public int deal() {
        if (church.isNone()) {
            return NO_SUCH;
        }
        deal.weigh();
        return deal.least[0];
    }

    public int dealt(int person) {
        if (!church.hasPerson(person)) {
            return NO_SUCH;
        }
        deal.weigh();
        return deal.shareOf(person);
    }

    // ---- what was seen ----

    public int fits(int slot, int box) {
        int refusal = compare(slot, box);
        return refusal == 0 ? sightings.total() : refusal;
    }

    public int firsts(int slot, int box) {
        int refusal = compare(slot, box);
        return refusal == 0 ? sightings.firstBits : refusal;
    }

    public int may(int slot, int box, int person) {
        if (!church.hasPerson(person) || church.boxOf[person] != box) {
            return NO_SUCH;
        }
        int refusal = compare(slot, box);
        return refusal == 0 ? sightings.possible(person) : refusal;
    }

    public int ask(int slot, int box) {
        int refusal = compare(slot, box);
        return refusal == 0 ? sightings.mostTelling() : refusal;
    }

    public int leaves(int slot, int box) {
        int refusal = compare(slot, box);
        if (refusal != 0) {
            return refusal;
        }
        int asked = sightings.mostTelling();
        return asked == NONE ? sightings.total() : sightings.leftAtWorst(asked);
    }

    /** Counts the orders that fit a slot's row: 0, or why it can't. */
    private int compare(int slot, int box) {
        if (!rows.isSlot(slot) || !church.hasBox(box)) {
            return NO_SUCH;
        }
        if (!rows.hasRow(slot)) {
            return NOTHING_THERE;
        }
        bench.seat(box);
        if (!sightings.note(rows, slot)) {
            return NO_SUCH;
        }
        sightings.tally();
        return 0;
    }

    // ---- means ----

    public long mean(int slot, int person, int what) {
        return pass(slot, person, 1, what);
    }

    public int choose(int person) {
        if (!church.hasPerson(person)) {
            return NO_SUCH;
        }
        int found = NONE;
        for (int slot = 0; slot < Rows.SLOTS; slot++) {
            if (rows.hasRow(slot) && rows.tellsHowOften(slot, church.penances)) {
                mean.expect(rows, slot, church, person, 1);
                if (found == NONE || mean.isBelow(leastMean)) {
                    leastMean.put(mean.above, mean.below);
                    found = slot;
                }
            }
        }
        return found;
    }

    public long pass(int slot, int person, int n, int what) {
        if (what < 0 || what > 1) {
            return NO_SUCH;
        }
        int refusal = whyNoMean(slot, person, n);
        if (refusal != 0) {
            return refusal;
        }
        mean.expect(rows, slot, church, person, n);
        return what == 0 ? mean.above : mean.below;
    }

    public int takes(int slot, int person, int n) {
        int refusal = whyNoMean(slot, person, n);
        if (refusal != 0) {
            return refusal;
        }
        if (n == 1) {
            return ANY_COST;
        }
        mean.expect(rows, slot, church, person, n - 1);
        return mean.cut();
    }

    private int whyNoMean(int slot, int person, int n) {
        if (!rows.isSlot(slot) || !church.hasPerson(person) || n < 1 || n > MOST_SEEN) {
            return NO_SUCH;
        }
        if (!rows.hasRow(slot)) {
            return NOTHING_THERE;
        }
        return rows.tellsHowOften(slot, church.penances) ? 0 : NO_SUCH;
    }

    // ---- acts ----

    public int confess(int person) {
        if (!church.hasPerson(person)) {
            return NO_SUCH;
        }
        if (acts.hasConfessed(person) || acts.isFull()) {
            return NOT_NOW;
        }
        return acts.addConfession(church, person);
    }

    public int clear(int person, int other) {
        if (!church.hasPerson(person) || !church.hasPerson(other) || person == other) {
            return NO_SUCH;
        }
        if (!acts.hasConfessed(person) || !acts.hasConfessed(other) || acts.isFull()) {
            return NOT_NOW;
        }
        acts.addClearing(person, other);
        return 0;
    }

    public int now(int box) {
        return church.hasBox(box) ? acts.lies[box] : NO_SUCH;
    }

    public int has(int person) {
        if (!church.hasPerson(person)) {
            return NO_SUCH;
        }
        return acts.hasConfessed(person) ? acts.held[person] : NOT_CONFESSED;
    }

    public int done() {
        return church.isNone() ? NO_SUCH : acts.confessed;
    }

    public int sum() {
        if (church.isNone()) {
            return NO_SUCH;
        }
        int costs = 0;
        for (int p = 0; p < church.persons; p++) {
            costs += church.costOf(p, acts.held[p]);
        }
        return costs;
    }

    public int undo() {
        if (church.isNone()) {
            return NO_SUCH;
        }
        if (acts.count == 0) {
            return NOT_NOW;
        }
        acts.takeBack(church);
        return acts.count;
    }

    public int anew() {
        if (church.isNone()) {
            return NO_SUCH;
        }
        int were = acts.count;
        acts.begin(church);
        return were;
    }

    // ---- weeks ----

    public int drawn(int seed, int what) {
        if (church.isNone() || !isSeed(seed) || what < 0 || what > 1) {
            return NO_SUCH;
        }
        int comers = church.comers(seed);
        return what == 0 ? comers : church.costsOf(comers);
    }

    public int fate(int seed, int person) {
        if (!isSeed(seed) || !church.hasPerson(person)) {
            return NO_SUCH;
        }
        return church.fateOf(person, seed);
    }

    public int luck(int seed, int n, int person) {
        if (!isSeed(seed) || n < 1 || n > MOST_WEEKS || !church.hasPerson(person)) {
            return NO_SUCH;
        }
        int ownCost = church.costOf(person, church.sin[person]);
        int weeks = 0;
        for (int i = 0; i < n; i++) {
            if (church.costOf(person, church.fateOf(person, seed + i)) <= ownCost) {
                weeks++;
            }
        }
        return weeks;
    }

    private static boolean isSeed(int seed) {
        return seed >= 0 && seed <= MOST_SEED;
    }

    // ---- changes ----

    public int set(int penance, int n) {
        if (!church.hasPenance(penance) || n < 0 || n > MOST_DAYS) {
            return NO_SUCH;
        }
        if (acts.count > 0) {
            return NOT_NOW;
        }
        int were = church.days[penance];
        church.days[penance] = n;
        return were;
    }

    public int move(int person, int hour) {
        if (!church.hasPerson(person) || !church.hasHour(hour)) {
            return NO_SUCH;
        }
        if (acts.count > 0) {
            return NOT_NOW;
        }
        int was = church.hourOf[person];
        church.hourOf[person] = hour;
        return was;
    }

    public int count(int what) {
        switch (what) {
            case 0:
                return church.hours;
            case 1:
                return church.boxes;
            case 2:
                return church.odds;
            case 3:
                return church.penances;
            case 4:
                return church.persons;
            case 5:
                return acts.count;
            case 6:
                return church.lines;
            case 7:
                return reader.length;
            case 8:
                return rows.howMany();
            default:
                return NONE;
        }
    }

    // ---- images ----

    public int image(int k) {
        if (k < 0 || k >= images.length) {
            return NO_SUCH;
        }
        Image kept = images[k];
        if (kept == null) {
            kept = new Image();
            images[k] = kept;
        }
        kept.church.takeOver(church);
        kept.acts.takeOver(acts);
        return 0;
    }

    public int again(int k) {
        if (k < 0 || k >= images.length) {
            return NO_SUCH;
        }
        Image kept = images[k];
        if (kept == null) {
            return NOTHING_THERE;
        }
        church.takeOver(kept.church);
        acts.takeOver(kept.acts);
        return 0;
    }

    // ---- slots ----

    public int row(int slot, int width, int n) {
        if (!rows.isSlot(slot) || width < 0 || width > Rows.MOST_WIDTH || n > Rows.MOST_NUMBERS) {
            return NO_SUCH;
        }
        if (n < 0) {
            return BELOW_ZERO;
        }
        rows.lay(slot, width, n);
        return 0;
    }

    public int write(int slot, int i, long v) {
        if (!rows.isSlot(slot)) {
            return NO_SUCH;
        }
        if (!rows.hasRow(slot)) {
            return NOTHING_THERE;
        }
        if (i < 0 || i >= rows.lengths[slot]) {
            return BEYOND;
        }
        rows.put(slot, i, v);
        return 0;
    }

    public int paste(int slot, int i, int to, int k, int n) {
        if (!rows.isSlot(slot) || !rows.isSlot(to)) {
            return NO_SUCH;
        }
        if (!rows.hasRow(slot) || !rows.hasRow(to)) {
            return NOTHING_THERE;
        }
        if (rows.widths[slot] != rows.widths[to]) {
            return OTHER_WIDTH;
        }
        if (!rows.holds(slot, i, n) || !rows.holds(to, k, n)) {
            return BEYOND;
        }
        System.arraycopy(rows.numbers[slot], i, rows.numbers[to], k, n);
        return 0;
    }

    /**
     * The tape, and the church that it tells. It is read from left to right, so that the first fault met is the
     * first by its place.
     */
    private static final class Reader {
        static final int NO_FAULT = 0;
        private static final int MISPLACED = 1;
        private static final int OUT_OF_BOUNDS = 2;
        private static final int TOO_MANY = 3;

        private static final int MOST_BYTES = 1200;
        private static final int BYTES_FED = 20;

        private static final int END = 0;
        private static final int WORD = 1;
        private static final int NUMBER = 2;
        private static final int SIGN = 3;
        private static final int BLANK = 4;
        private static final int NO_TOKEN = 5;
        // Above every bound of the document, so that a longer number stays out of bounds without wrapping.
        private static final int TOO_GREAT = 100_000;

        final Church told = new Church();
        int length;
        int fault = NO_FAULT;
        int place = NONE;
        private final int[] bytes = new int[MOST_BYTES];
        private int start;
        private int behind;
        private int kind;
        private int value;

        boolean hasRoom() {
            return length + BYTES_FED <= MOST_BYTES;
        }

        void addNumber(int number) {
            for (int shift = 24; shift >= 0 && length < MOST_BYTES; shift -= 8) {
                bytes[length] = number >>> shift & 255;
                length++;
            }
        }

        void readAll() {
            told.forget();
            fault = NO_FAULT;
            place = NONE;
            behind = 0;
            step();
            for (int n = 0; n < MOST_BYTES && kind != END; n++) {
                if (!readLine() || !passSign()) {
                    return;
                }
                told.lines++;
            }
        }

        private boolean readLine() {
            if (told.lines == 0) {
                return readHead();
            }
            if (isWord("penance")) {
                return readPenance();
            }
            if (isWord("person")) {
                return readPerson() && readGrudges();
            }
            if (isWord("left")) {
                return readLeft();
            }
            return refuse(MISPLACED);
        }

        private boolean readHead() {
            if (!passWord("church") || !passWord("hours") || !isNumber(1, MOST_HOURS)) {
                return false;
            }
            told.hours = passNumber();
            if (!passWord("boxes") || !isNumber(1, MOST_BOXES)) {
                return false;
            }
            told.boxes = passNumber();
            if (!passWord("odds") || !isNumber(0, 100)) {
                return false;
            }
            told.odds = passNumber();
            return true;
        }

        private boolean readPenance() {
            int penance = told.penances;
            if (penance >= MOST_PENANCES) {
                return refuse(TOO_MANY);
            }
            if (!passWord("penance") || !passWord("days") || !isNumber(0, MOST_DAYS)) {
                return false;
            }
            told.days[penance] = passNumber();
            told.penances++;
            return true;
        }

        private boolean readPerson() {
            int person = told.persons;
            if (person >= MOST_PERSONS) {
                return refuse(TOO_MANY);
            }
            if (!passWord("person") || !passWord("sin") || !isNumber(0, told.penances - 1)) {
                return false;
            }
            told.sin[person] = passNumber();
            if (!passWord("at") || !isNumber(0, told.hours - 1)) {
                return false;
            }
            told.hourOf[person] = passNumber();
            told.boxOf[person] = 0;
            if (isWord("box")) {
                step();
                if (!isNumber(0, told.boxes - 1)) {
                    return false;
                }
                told.boxOf[person] = passNumber();
            }
            if (!passWord("bears") || !isNumber(1, 9)) {
                return false;
            }
            told.strength[person] = passNumber();
            told.persons++;
            return true;
        }

        /** Reads what the latest person minds. */
        private boolean readGrudges() {
            for (int n = 0; n < MOST_BYTES && isWord("minds"); n++) {
                step();
                if (!isNumber(0, told.penances - 1)) {
                    return false;
                }
                int penance = passNumber();
                if (!isNumber(0, 999)) {
                    return false;
                }
                told.putGrudge(told.persons - 1, penance, passNumber());
            }
            return true;
        }

        private boolean readLeft() {
            if (!passWord("left") || !isNumber(0, told.boxes - 1)) {
                return false;
            }
            int box = passNumber();
            if (!isNumber(0, told.penances - 1)) {
                return false;
            }
            told.left[box] = passNumber();
            return true;
        }

        private boolean passSign() {
            if (kind != SIGN) {
                return refuse(MISPLACED);
            }
            step();
            return true;
        }

        private boolean passWord(String word) {
            if (!isWord(word)) {
                return refuse(MISPLACED);
            }
            step();
            return true;
        }

        private int passNumber() {
            int number = value;
            step();
            return number;
        }

        private boolean isNumber(int least, int most) {
            if (kind != NUMBER) {
                return refuse(MISPLACED);
            }
            return value >= least && value <= most || refuse(OUT_OF_BOUNDS);
        }

        private boolean isWord(String word) {
            if (kind != WORD || behind - start != word.length()) {
                return false;
            }
            for (int i = start; i < behind; i++) {
                if (bytes[i] != word.charAt(i - start)) {
                    return false;
                }
            }
            return true;
        }

        private boolean refuse(int why) {
            fault = why;
            place = start;
            return false;
        }

        /** Goes on to the next token. */
        private void step() {
            while (behind < length && kindAt(behind) == BLANK) {
                behind++;
            }
            start = behind;
            kind = kindAt(start);
            if (behind < length) {
                behind++;
            }
            boolean isRun = kind == WORD || kind == NUMBER;
            while (isRun && behind < length && kindAt(behind) == kind) {
                behind++;
            }
            if (kind == NUMBER) {
                takeValue();
            }
        }

        private void takeValue() {
            value = 0;
            for (int i = start; i < behind; i++) {
                value = Math.min(value * 10 + bytes[i] - '0', TOO_GREAT);
            }
        }

        private int kindAt(int at) {
            if (at < 0 || at >= length) {
                return END;
            }
            int sign = bytes[at];
            if (sign >= 'a' && sign <= 'z') {
                return WORD;
            }
            if (sign >= '0' && sign <= '9') {
                return NUMBER;
            }
            if (sign == ' ' || sign == '\n') {
                return BLANK;
            }
            return sign == ';' ? SIGN : NO_TOKEN;
        }
    }

    /** A church as it was told; without lines it is none. */
    private static final class Church {
        private static final int MOST_MOVES = 60;
        private static final long FACTOR = 1_103_515_245L;
        private static final long ADDED = 12_345L;
        private static final long MODULUS = 2_147_483_648L;
        private static final long CUT_OFF = 65_536L;

        int lines;
        int hours;
        int boxes;
        int odds;
        int penances;
        int persons;
        final int[] days = new int[MOST_PENANCES];
        final int[] sin = new int[MOST_PERSONS];
        final int[] hourOf = new int[MOST_PERSONS];
        final int[] boxOf = new int[MOST_PERSONS];
        final int[] strength = new int[MOST_PERSONS];
        final int[][] grudges = new int[MOST_PERSONS][MOST_PENANCES];
        final int[] left = new int[MOST_BOXES];

        void forget() {
            lines = 0;
            hours = 0;
            boxes = 0;
            odds = 0;
            penances = 0;
            persons = 0;
            for (int p = 0; p < MOST_PERSONS; p++) {
                Arrays.fill(grudges[p], 0);
            }
            Arrays.fill(left, NONE);
        }

        void takeOver(Church other) {
            lines = other.lines;
            hours = other.hours;
            boxes = other.boxes;
            odds = other.odds;
            penances = other.penances;
            persons = other.persons;
            System.arraycopy(other.days, 0, days, 0, MOST_PENANCES);
            System.arraycopy(other.sin, 0, sin, 0, MOST_PERSONS);
            System.arraycopy(other.hourOf, 0, hourOf, 0, MOST_PERSONS);
            System.arraycopy(other.boxOf, 0, boxOf, 0, MOST_PERSONS);
            System.arraycopy(other.strength, 0, strength, 0, MOST_PERSONS);
            for (int p = 0; p < MOST_PERSONS; p++) {
                System.arraycopy(other.grudges[p], 0, grudges[p], 0, MOST_PENANCES);
            }
            System.arraycopy(other.left, 0, left, 0, MOST_BOXES);
        }

        boolean isNone() {
            return lines == 0;
        }

        boolean hasPenance(int penance) {
            return penance >= 0 && penance < penances;
        }

        boolean hasPenanceOrNone(int penance) {
            return penance == NONE || hasPenance(penance);
        }

        boolean hasPerson(int person) {
            return person >= 0 && person < persons;
        }

        boolean hasBox(int box) {
            return box >= 0 && box < boxes;
        }

        boolean hasHour(int hour) {
            return hour >= 0 && hour < hours;
        }

        void putGrudge(int person, int penance, int by) {
            if (hasPerson(person) && hasPenance(penance)) {
                grudges[person][penance] = by;
            }
        }

        int grudge(int person, int penance) {
            return hasPerson(person) && hasPenance(penance) ? grudges[person][penance] : 0;
        }

        /** Nothing costs 0. */
        int costOf(int person, int penance) {
            if (!hasPerson(person) || !hasPenance(penance)) {
                return 0;
            }
            return days[penance] * strength[person] + grudges[person][penance];
        }

        int personsOf(int box) {
            int bits = 0;
            for (int p = 0; p < persons; p++) {
                if (boxOf[p] == box) {
                    bits |= 1 << p;
                }
            }
            return bits;
        }

        /** Whether a person comes ahead of another one of the same box, if that one came in an hour. */
        private boolean isAhead(int person, int other, int hour) {
            return hourOf[person] < hour || hourOf[person] == hour && person < other;
        }

        int placeOf(int person) {
            int place = 0;
            for (int p = 0; p < persons; p++) {
                if (boxOf[p] == boxOf[person] && isAhead(p, person, hourOf[person])) {
                    place++;
                }
            }
            return place;
        }

        int inQueue(int box, int k) {
            for (int p = 0; p < persons; p++) {
                if (boxOf[p] == box && placeOf(p) == k) {
                    return p;
                }
            }
            return NONE;
        }

        /** The one right ahead of a person, if he came in an hour, among those of the box who come (bits). */
        private int rightAhead(int box, int comers, int person, int hour) {
            int found = NONE;
            for (int p = 0; p < persons; p++) {
                boolean isThere = (comers >> p & 1) != 0 && boxOf[p] == box && isAhead(p, person, hour);
                if (isThere && (found == NONE || hourOf[p] >= hourOf[found])) {
                    found = p;
                }
            }
            return found;
        }

        int forerunner(int person) {
            return rightAhead(boxOf[person], EVERYBODY, person, hourOf[person]);
        }

        /** What a person gets, if those of some bits come. */
        int gotBy(int person, int comers) {
            int box = boxOf[person];
            int giver = rightAhead(box, comers, person, hourOf[person]);
            return giver == NONE ? left[box] : sin[giver];
        }

        int leftBehind(int box) {
            // All come ahead of an hour that there is not.
            int found = rightAhead(box, EVERYBODY, 0, MOST_HOURS);
            return found == NONE ? left[box] : sin[found];
        }

        /** Costs of what those who come (bits) get, together. */
        int costsOf(int comers) {
            int costs = 0;
            for (int p = 0; p < persons; p++) {
                if ((comers >> p & 1) != 0) {
                    costs += costOf(p, gotBy(p, comers));
                }
            }
            return costs;
        }

        /** By how much what he gets costs him more than his own one. */
        int loss(int person) {
            return costOf(person, gotBy(person, EVERYBODY)) - costOf(person, sin[person]);
        }

        int costsIfSin(int person, int penance) {
            int kept = sin[person];
            sin[person] = penance;
            int costs = costsOf(EVERYBODY);
            sin[person] = kept;
            return costs;
        }

        int bestSin(int person) {
            int found = 0;
            int least = UNREACHED;
            for (int penance = 0; penance < penances; penance++) {
                int costs = costsIfSin(person, penance);
                if (costs < least) {
                    least = costs;
                    found = penance;
                }
            }
            return found;
        }

        int costInHour(int person, int hour) {
            int box = boxOf[person];
            int giver = rightAhead(box, EVERYBODY & ~(1 << person), person, hour);
            return costOf(person, giver == NONE ? left[box] : sin[giver]);
        }

        int bestHour(int person) {
            int found = 0;
            int least = UNREACHED;
            for (int hour = 0; hour < hours; hour++) {
                int cost = costInHour(person, hour);
                if (cost < least) {
                    least = cost;
                    found = hour;
                }
            }
            return found;
        }

        /** Those who would have less cost by another hour, as bits. */
        int restless() {
            int bits = 0;
            for (int p = 0; p < persons; p++) {
                if (costInHour(p, bestHour(p)) < costInHour(p, hourOf[p])) {
                    bits |= 1 << p;
                }
            }
            return bits;
        }

        private int firstOf(int bits) {
            for (int p = 0; p < persons; p++) {
                if ((bits >> p & 1) != 0) {
                    return p;
                }
            }
            return NONE;
        }

        /** Moves persons to their best hours until nobody would: how many moves, NONE if it does not end in time. */
        int settleDown() {
            for (int moves = 0; moves <= MOST_MOVES; moves++) {
                int mover = firstOf(restless());
                if (!hasPerson(mover)) {
                    return moves;
                }
                hourOf[mover] = bestHour(mover);
            }
            return NONE;
        }

        /** Those who come in the week of a seed, as bits. */
        int comers(long seed) {
            long x = seed;
            int bits = 0;
            for (int p = 0; p < persons; p++) {
                x = (FACTOR * x + ADDED) % MODULUS;
                if (x / CUT_OFF % 100 < odds) {
                    bits |= 1 << p;
                }
            }
            return bits;
        }

        int fateOf(int person, long seed) {
            int comers = comers(seed);
            return (comers >> person & 1) == 0 ? NONE : gotBy(person, comers);
        }
    }

    /** Confessions and clearings; those who did not confess hold nothing. */
    private static final class Acts {
        private static final int MOST = 40;

        int count;
        int confessed;
        final int[] lies = new int[MOST_BOXES];
        final int[] held = new int[MOST_PERSONS];
        private final int[] doer = new int[MOST];
        private final int[] partner = new int[MOST];

        void begin(Church church) {
            count = 0;
            confessed = 0;
            System.arraycopy(church.left, 0, lies, 0, MOST_BOXES);
            Arrays.fill(held, NONE);
        }

        void takeOver(Acts other) {
            count = other.count;
            confessed = other.confessed;
            System.arraycopy(other.lies, 0, lies, 0, MOST_BOXES);
            System.arraycopy(other.held, 0, held, 0, MOST_PERSONS);
            System.arraycopy(other.doer, 0, doer, 0, MOST);
            System.arraycopy(other.partner, 0, partner, 0, MOST);
        }

        boolean isFull() {
            return count >= MOST;
        }

        boolean hasConfessed(int person) {
            return (confessed >> person & 1) != 0;
        }

        int addConfession(Church church, int person) {
            int box = church.boxOf[person];
            held[person] = lies[box];
            lies[box] = church.sin[person];
            confessed |= 1 << person;
            log(person, NONE);
            return held[person];
        }

        void addClearing(int person, int other) {
            change(person, other);
            log(person, other);
        }

        private void log(int person, int other) {
            if (count < MOST) {
                doer[count] = person;
                partner[count] = other;
                count++;
            }
        }

        private void change(int person, int other) {
            int kept = held[person];
            held[person] = held[other];
            held[other] = kept;
        }

        void takeBack(Church church) {
            if (count <= 0) {
                return;
            }
            count--;
            int person = doer[count];
            if (partner[count] != NONE) {
                change(person, partner[count]);
                return;
            }
            // All later acts are back already, so he holds again just what lay in the box.
            lies[church.boxOf[person]] = held[person];
            held[person] = NONE;
            confessed &= ~(1 << person);
        }
    }

    /** The church and its acts as they were once. */
    private static final class Image {
        final Church church = new Church();
        final Acts acts = new Acts();
    }

    /** The slots with their rows of numbers. */
    private static final class Rows {
        static final int SLOTS = 4;
        static final int MOST_NUMBERS = 60;
        static final int MOST_WIDTH = 3;
        private static final int MOST_OFTEN = 9;

        final long[][] numbers = new long[SLOTS][MOST_NUMBERS];
        final int[] widths = new int[SLOTS];
        final int[] lengths = new int[SLOTS];

        Rows() {
            Arrays.fill(lengths, NONE);
        }

        boolean isSlot(int slot) {
            return slot >= 0 && slot < SLOTS;
        }

        boolean hasRow(int slot) {
            return isSlot(slot) && lengths[slot] != NONE;
        }

        int howMany() {
            int many = 0;
            for (int slot = 0; slot < SLOTS; slot++) {
                if (hasRow(slot)) {
                    many++;
                }
            }
            return many;
        }

        void lay(int slot, int width, int n) {
            widths[slot] = width;
            lengths[slot] = n;
            Arrays.fill(numbers[slot], 0L);
        }

        void put(int slot, int i, long v) {
            numbers[slot][i] = cutTo(widths[slot], v);
        }

        private static long cutTo(int width, long v) {
            switch (width) {
                case 0:
                    return (byte) v;
                case 1:
                    return (short) v;
                case 2:
                    return (int) v;
                default:
                    return v;
            }
        }

        /** Whether n numbers from a place on are all of the slot's row. */
        boolean holds(int slot, int place, int n) {
            return place >= 0 && n >= 0 && (long) place + n <= lengths[slot];
        }

        /** Whether the row tells of each penance how often it lies in a box. */
        boolean tellsHowOften(int slot, int penances) {
            if (lengths[slot] != penances) {
                return false;
            }
            long all = 0;
            for (int i = 0; i < penances; i++) {
                long often = numbers[slot][i];
                if (often < 0 || often > MOST_OFTEN) {
                    return false;
                }
                all += often;
            }
            return all > 0;
        }
    }

    /**
     * Those of one box, by numbers. A node is the set of them who were there and the seat of the last one;
     * what orders have in common behind a node is counted once.
     */
    private static final class Bench {
        static final int NO_SEAT = MOST_PERSONS;
        static final int NODES_A_SET = MOST_PERSONS + 1;
        static final int NODES = SETS * NODES_A_SET;
        static final int START = NO_SEAT;

        final Church church;
        int box;
        int size;
        final int[] who = new int[MOST_PERSONS];
        /** The penance that lies in the box behind each seat, and at first. */
        final int[] lies = new int[NODES_A_SET];
        /** What that costs the one of each seat. */
        final int[][] costs = new int[NODES_A_SET][MOST_PERSONS];

        Bench(Church church) {
            this.church = church;
        }

        void seat(int newBox) {
            box = newBox;
            size = 0;
            for (int p = 0; p < church.persons; p++) {
                if (church.boxOf[p] == box) {
                    who[size] = p;
                    lies[size] = church.sin[p];
                    size++;
                }
            }
            lies[NO_SEAT] = church.left[box];
            for (int last = 0; last <= NO_SEAT; last++) {
                for (int seat = 0; seat < size; seat++) {
                    costs[last][seat] = church.costOf(who[seat], lies[last]);
                }
            }
        }

        int allSeats() {
            return (1 << size) - 1;
        }

        static int node(int set, int last) {
            return set * NODES_A_SET + last;
        }

        /** Whether a set can have such a last one: the empty set has no seat, another one a seat of its own. */
        boolean isNode(int set, int last) {
            return last == NO_SEAT ? set == 0 : last < size && (set >> last & 1) != 0;
        }
    }

    /** For each node, what the orders of those still to come can bring. */
    private static final class Orders {
        final Bench bench;
        final int[] least = new int[Bench.NODES];
        final int[] many = new int[Bench.NODES];
        final int[] greatest = new int[Bench.NODES];
        final int[] hardest = new int[Bench.NODES];
        final int[] alike = new int[Bench.NODES];

        Orders(Bench bench) {
            this.bench = bench;
        }

        void weigh() {
            int all = bench.allSeats();
            for (int set = all; set >= 0; set--) {
                for (int last = 0; last <= Bench.NO_SEAT; last++) {
                    if (bench.isNode(set, last)) {
                        weighNode(set, last, set == all);
                    }
                }
            }
        }

        private void weighNode(int set, int last, boolean over) {
            int node = Bench.node(set, last);
            least[node] = over ? 0 : UNREACHED;
            many[node] = over ? 1 : 0;
            greatest[node] = 0;
            hardest[node] = over ? 0 : UNREACHED;
            alike[node] = 0;
            for (int seat = 0; seat < bench.size; seat++) {
                if ((set >> seat & 1) == 0) {
                    goOn(node, Bench.node(set | 1 << seat, seat), last, seat);
                }
            }
        }

        private void goOn(int node, int next, int last, int seat) {
            int cost = bench.costs[last][seat];
            int costs = cost + least[next];
            if (costs < least[node]) {
                least[node] = costs;
                many[node] = 0;
            }
            if (costs == least[node]) {
                many[node] += many[next];
            }
            greatest[node] = Math.max(greatest[node], cost + greatest[next]);
            hardest[node] = Math.min(hardest[node], Math.max(cost, hardest[next]));
            int likes = bench.lies[last] == bench.lies[seat] ? 1 : 0;
            alike[node] = Math.max(alike[node], likes + alike[next]);
        }

        /** The person at place k of the first order of least costs. */
        int personAt(int k) {
            if (k < 0 || k >= bench.size) {
                return NONE;
            }
            int set = 0;
            int last = Bench.NO_SEAT;
            for (int place = 0; place <= k; place++) {
                int seat = firstSeat(set, last);
                set |= 1 << seat;
                last = seat;
            }
            return bench.who[last];
        }

        private int firstSeat(int set, int last) {
            int due = least[Bench.node(set, last)];
            for (int seat = 0; seat < bench.size; seat++) {
                boolean free = (set >> seat & 1) == 0;
                if (free && bench.costs[last][seat] + least[Bench.node(set | 1 << seat, seat)] == due) {
                    return seat;
                }
            }
            return 0;
        }
    }

    /** The orders of a box's persons that fit what was seen, counted by who gets what. */
    private static final class Sightings {
        private static final int NOTHING = MOST_PENANCES;
        private static final int KINDS = MOST_PENANCES + 1;
        private static final int ANY_KIND = (1 << KINDS) - 1;

        final Bench bench;
        int firstBits;
        private final int[] allowed = new int[MOST_PERSONS];
        private final int[] ways = new int[Bench.NODES];
        private final int[] rest = new int[Bench.NODES];
        private final int[][] tallies = new int[MOST_PERSONS][KINDS];

        Sightings(Bench bench) {
            this.bench = bench;
        }

        private static int kindOf(int penance) {
            return penance == NONE ? NOTHING : penance;
        }

        /** Takes a slot's row as what was seen: whether it tells of the box's persons, two numbers each. */
        boolean note(Rows rows, int slot) {
            Arrays.fill(allowed, ANY_KIND);
            int length = rows.lengths[slot];
            if (length % 2 != 0) {
                return false;
            }
            for (int i = 0; i + 1 < length; i += 2) {
                int person = inBounds(rows.numbers[slot][i], bench.church.persons);
                int penance = inBounds(rows.numbers[slot][i + 1], bench.church.penances);
                boolean nothing = rows.numbers[slot][i + 1] == NONE;
                if (!isSeated(person) || penance == NONE && !nothing) {
                    return false;
                }
                allowed[person] &= 1 << kindOf(penance);
            }
            return true;
        }

        private static int inBounds(long number, int bound) {
            return number >= 0 && number < bound ? (int) number : NONE;
        }

        private boolean isSeated(int person) {
            return person != NONE && bench.church.boxOf[person] == bench.box;
        }

        void tally() {
            int all = bench.allSeats();
            Arrays.fill(ways, 0);
            firstBits = 0;
            for (int p = 0; p < MOST_PERSONS; p++) {
                Arrays.fill(tallies[p], 0);
            }
            for (int set = all; set >= 0; set--) {
                for (int last = 0; last <= Bench.NO_SEAT; last++) {
                    if (bench.isNode(set, last)) {
                        countRest(set, last, set == all);
                    }
                }
            }
            ways[Bench.START] = 1;
            for (int set = 0; set <= all; set++) {
                for (int last = 0; last <= Bench.NO_SEAT; last++) {
                    if (bench.isNode(set, last)) {
                        countOn(set, last);
                    }
                }
            }
        }

        private boolean fitsBehind(int set, int last, int seat) {
            if ((set >> seat & 1) != 0) {
                return false;
            }
            return (allowed[bench.who[seat]] >> kindOf(bench.lies[last]) & 1) != 0;
        }

        private void countRest(int set, int last, boolean over) {
            int orders = over ? 1 : 0;
            for (int seat = 0; seat < bench.size; seat++) {
                if (fitsBehind(set, last, seat)) {
                    orders += rest[Bench.node(set | 1 << seat, seat)];
                }
            }
            rest[Bench.node(set, last)] = orders;
        }

        private void countOn(int set, int last) {
            int reached = ways[Bench.node(set, last)];
            int kind = kindOf(bench.lies[last]);
            for (int seat = 0; seat < bench.size; seat++) {
                if (fitsBehind(set, last, seat)) {
                    int next = Bench.node(set | 1 << seat, seat);
                    int orders = reached * rest[next];
                    ways[next] += reached;
                    tallies[bench.who[seat]][kind] += orders;
                    if (last == Bench.NO_SEAT && orders > 0) {
                        firstBits |= 1 << bench.who[seat];
                    }
                }
            }
        }

        int total() {
            return rest[Bench.START];
        }

        int possible(int person) {
            int bits = 0;
            for (int kind = 0; kind < KINDS; kind++) {
                if (tallies[person][kind] > 0) {
                    bits |= 1 << kind;
                }
            }
            return bits;
        }

        int leftAtWorst(int person) {
            int most = 0;
            for (int kind = 0; kind < KINDS; kind++) {
                most = Math.max(most, tallies[person][kind]);
            }
            return most;
        }

        int mostTelling() {
            int found = NONE;
            int fewest = total();
            for (int seat = 0; seat < bench.size; seat++) {
                int orders = leftAtWorst(bench.who[seat]);
                if (orders < fewest) {
                    fewest = orders;
                    found = bench.who[seat];
                }
            }
            return found;
        }
    }

    /**
     * How few swaps give each one his own. A set of persons can settle among themselves if what they get is what
     * they told, and then needs one swap less than it has persons: so the most such sets make the fewest swaps.
     */
    private static final class Swaps {
        private static final int NOTHING = MOST_PENANCES;
        // Of a penance there are at most seven more or less in a set, so the lanes never run into one another.
        private static final int LANE_BITS = 5;

        int lesser;
        int greater;
        private int size;
        private final int[] got = new int[MOST_PERSONS];
        private final int[] sin = new int[MOST_PERSONS];
        private final long[] excess = new long[SETS];
        private final int[] groups = new int[SETS];

        void lookAt(Church church) {
            size = church.persons;
            for (int p = 0; p < size; p++) {
                got[p] = church.gotBy(p, EVERYBODY);
                sin[p] = church.sin[p];
            }
        }

        private static long lane(int penance) {
            return 1L << LANE_BITS * (penance == NONE ? NOTHING : penance);
        }

        int fewest() {
            int all = (1 << size) - 1;
            excess[0] = 0;
            groups[0] = 0;
            for (int set = 1; set <= all; set++) {
                groups[set] = 0;
                for (int p = 0; p < size; p++) {
                    if ((set >> p & 1) != 0) {
                        int others = set ^ 1 << p;
                        excess[set] = excess[others] + lane(got[p]) - lane(sin[p]);
                        groups[set] = Math.max(groups[set], groups[others]);
                    }
                }
                if (excess[set] == 0) {
                    groups[set]++;
                }
            }
            return excess[all] == 0 ? size - groups[all] : NONE;
        }

        /** The first pair whose swap leaves one swap less, NONE both if none is needed or will do. */
        void findPair() {
            lesser = NONE;
            greater = NONE;
            int now = fewest();
            if (now <= 0) {
                return;
            }
            for (int p = 0; p < size; p++) {
                for (int q = p + 1; q < size; q++) {
                    if (fewestBehind(p, q) == now - 1) {
                        lesser = p;
                        greater = q;
                        return;
                    }
                }
            }
        }

        private int fewestBehind(int p, int q) {
            change(p, q);
            int swaps = fewest();
            change(p, q);
            return swaps;
        }

        private void change(int p, int q) {
            int kept = got[p];
            got[p] = got[q];
            got[q] = kept;
        }
    }

    /** What all get, dealt out anew from person 0 on: the least costs of the rest, by the set of what is dealt. */
    private static final class Deal {
        final Church church;
        final int[] least = new int[SETS];
        private final int[] shares = new int[MOST_PERSONS];

        Deal(Church church) {
            this.church = church;
        }

        void weigh() {
            int size = church.persons;
            for (int p = 0; p < size; p++) {
                shares[p] = church.gotBy(p, EVERYBODY);
            }
            int all = (1 << size) - 1;
            least[all] = 0;
            for (int set = all - 1; set >= 0; set--) {
                least[set] = UNREACHED;
                for (int i = 0; i < size; i++) {
                    if ((set >> i & 1) == 0) {
                        least[set] = Math.min(least[set], costsWith(set, i));
                    }
                }
            }
        }

        /** The costs of the rest, if the next person gets share i. */
        private int costsWith(int set, int i) {
            return church.costOf(Integer.bitCount(set), shares[i]) + least[set | 1 << i];
        }

        /** What a person has by the first deal of least costs. */
        int shareOf(int person) {
            int set = 0;
            int share = 0;
            for (int p = 0; p <= person; p++) {
                share = firstShare(set);
                set |= 1 << share;
            }
            return shares[share];
        }

        private int firstShare(int set) {
            int found = NONE;
            for (int i = 0; i < church.persons; i++) {
                boolean free = (set >> i & 1) == 0;
                if (free && costsWith(set, i) == least[set] && (found == NONE || isLess(shares[i], shares[found]))) {
                    found = i;
                }
            }
            return found == NONE ? 0 : found;
        }

        /** By numbers, nothing last. */
        private static boolean isLess(int penance, int other) {
            return penance != NONE && (other == NONE || penance < other);
        }
    }

    /** A mean cost, as a fraction in lowest terms. */
    private static final class Mean {
        // Euclid's way with two longs ends in fewer steps.
        private static final int MOST_STEPS = 100;

        long above;
        long below = 1;

        /** Puts the mean cost of one who may see n, and lets pass what costs more than waiting. */
        void expect(Rows rows, int slot, Church church, int person, int n) {
            for (int seen = 0; seen < n; seen++) {
                long all = 0;
                long waiting = 0;
                long taken = 0;
                for (int penance = 0; penance < church.penances; penance++) {
                    long often = rows.numbers[slot][penance];
                    long cost = church.costOf(person, penance);
                    all += often;
                    if (seen == 0 || cost * below <= above) {
                        taken += often * cost;
                    } else {
                        waiting += often;
                    }
                }
                if (seen == 0) {
                    put(taken, all);
                } else {
                    put(taken * below + waiting * above, all * below);
                }
            }
        }

        void put(long newAbove, long newBelow) {
            long divisor = commonDivisor(newAbove, newBelow);
            if (divisor > 0) {
                above = newAbove / divisor;
                below = newBelow / divisor;
            }
        }

        private static long commonDivisor(long one, long other) {
            long a = one;
            long b = other;
            for (int n = 0; n < MOST_STEPS && b != 0; n++) {
                long rest = a % b;
                a = b;
                b = rest;
            }
            return a;
        }

        boolean isBelow(Mean other) {
            return above * other.below < other.above * below;
        }

        /** The greatest whole number that is not above it. */
        int cut() {
            return below > 0 ? (int) (above / below) : 0;
        }
    }
}
