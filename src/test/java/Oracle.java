import java.math.BigInteger;
import java.util.ArrayDeque;
import java.util.ArrayList;
import java.util.Collections;
import java.util.HashMap;
import java.util.List;
import java.util.Map;
import java.util.TreeMap;
import java.util.TreeSet;

/** The document once more, told by lists, all orders and plain search, to compare the class with. */
final class Oracle {
    static final class Person {
        int own;
        int hour;
        int box;
        int bears;
        Map<Integer, Integer> minds = new HashMap<>();

        Person copy() {
            Person p = new Person();
            p.own = own;
            p.hour = hour;
            p.box = box;
            p.bears = bears;
            p.minds = new HashMap<>(minds);
            return p;
        }
    }

    static final class State {
        int lines;
        int hours;
        int boxes;
        int odds;
        List<Integer> days = new ArrayList<>();
        List<Person> persons = new ArrayList<>();
        Map<Integer, Integer> left = new HashMap<>();
        List<int[]> acts = new ArrayList<>();

        State copy() {
            State s = new State();
            s.lines = lines;
            s.hours = hours;
            s.boxes = boxes;
            s.odds = odds;
            s.days = new ArrayList<>(days);
            for (Person p : persons) {
                s.persons.add(p.copy());
            }
            s.left = new HashMap<>(left);
            s.acts = new ArrayList<>(acts);
            return s;
        }
    }

    static final class Fault extends RuntimeException {
        private static final long serialVersionUID = 1L;
        final int kind;
        final int place;

        Fault(int kind, int place) {
            this.kind = kind;
            this.place = place;
        }
    }

    record Token(String text, int place) {
    }

    private StringBuilder tape = new StringBuilder();
    private State state = new State();
    private final State[] images = new State[3];
    private final long[][] rows = new long[4][];
    private final int[] widths = new int[4];
    private int faultKind = 0;
    private int faultPlace = -1;

    // ---- text ----

    public int feed(int a, int b, int c, int d, int e) {
        if (tape.length() > 1180) {
            return -1;
        }
        for (int n : new int[] {a, b, c, d, e}) {
            for (int i = 3; i >= 0; i--) {
                tape.append((char) (n >> 8 * i & 0xff));
            }
        }
        return tape.length();
    }

    public int end(int n) {
        if (n < 0 || n > tape.length()) {
            return -1;
        }
        tape.setLength(n);
        return n;
    }

    private static List<Token> tokens(String text) {
        List<Token> found = new ArrayList<>();
        int i = 0;
        while (i < text.length()) {
            char c = text.charAt(i);
            if (c == 32 || c == 10) {
                i++;
                continue;
            }
            int j = i;
            if (c >= 'a' && c <= 'z') {
                while (j < text.length() && text.charAt(j) >= 'a' && text.charAt(j) <= 'z') {
                    j++;
                }
            } else if (c >= '0' && c <= '9') {
                while (j < text.length() && text.charAt(j) >= '0' && text.charAt(j) <= '9') {
                    j++;
                }
            } else {
                j++;
            }
            found.add(new Token(text.substring(i, j), i));
            i = j;
        }
        found.add(new Token("", text.length()));
        return found;
    }

    private List<Token> tokens;
    private int at;

    private boolean next(String word) {
        return tokens.get(at).text().equals(word);
    }

    private void word(String word) {
        if (!next(word)) {
            throw new Fault(1, tokens.get(at).place());
        }
        at++;
    }

    private int number(int from, int to) {
        Token t = tokens.get(at);
        if (!t.text().matches("[0-9]+")) {
            throw new Fault(1, t.place());
        }
        BigInteger v = new BigInteger(t.text());
        if (v.compareTo(BigInteger.valueOf(from)) < 0 || v.compareTo(BigInteger.valueOf(to)) > 0) {
            throw new Fault(2, t.place());
        }
        at++;
        return v.intValue();
    }

    private State parse(String text) {
        tokens = tokens(text);
        at = 0;
        State s = new State();
        while (!next("")) {
            int place = tokens.get(at).place();
            if (s.lines == 0) {
                word("church");
                word("hours");
                s.hours = number(1, 12);
                word("boxes");
                s.boxes = number(1, 3);
                word("odds");
                s.odds = number(0, 100);
            } else if (next("penance")) {
                if (s.days.size() == 8) {
                    throw new Fault(3, place);
                }
                word("penance");
                word("days");
                s.days.add(number(0, 99));
            } else if (next("person")) {
                if (s.persons.size() == 7) {
                    throw new Fault(3, place);
                }
                word("person");
                Person p = new Person();
                word("sin");
                p.own = number(0, s.days.size() - 1);
                word("at");
                p.hour = number(0, s.hours - 1);
                if (next("box")) {
                    word("box");
                    p.box = number(0, s.boxes - 1);
                }
                word("bears");
                p.bears = number(1, 9);
                while (next("minds")) {
                    word("minds");
                    int which = number(0, s.days.size() - 1);
                    p.minds.put(which, number(0, 999));
                }
                s.persons.add(p);
            } else {
                word("left");
                int box = number(0, s.boxes - 1);
                s.left.put(box, number(0, s.days.size() - 1));
            }
            word(";");
            s.lines++;
        }
        return s;
    }

    public int church() {
        faultKind = 0;
        faultPlace = -1;
        try {
            state = parse(tape.toString());
            tape.setLength(0);
            return state.lines;
        } catch (Fault f) {
            faultKind = f.kind;
            faultPlace = f.place;
            return -4;
        }
    }

    public int fault(int what) {
        return what == 0 ? faultKind : what == 1 ? faultPlace : -1;
    }

    // ---- small helps ----

    private boolean noPerson(int p) {
        return p < 0 || p >= state.persons.size();
    }

    private boolean noPenance(int p) {
        return p < 0 || p >= state.days.size();
    }

    private boolean noBox(int b) {
        return b < 0 || b >= state.boxes;
    }

    private boolean noChurch() {
        return state.lines == 0;
    }

    private Person who(int p) {
        return state.persons.get(p);
    }

    private static int costOf(State s, int p, int penance) {
        if (penance == -1) {
            return 0;
        }
        Person who = s.persons.get(p);
        return s.days.get(penance) * who.bears + who.minds.getOrDefault(penance, 0);
    }

    private int costOf(int p, int penance) {
        return costOf(state, p, penance);
    }

    private static List<Integer> everybody(State s) {
        List<Integer> all = new ArrayList<>();
        for (int p = 0; p < s.persons.size(); p++) {
            all.add(p);
        }
        return all;
    }

    private static List<Integer> line(State s, int box, List<Integer> comers) {
        List<Integer> found = new ArrayList<>();
        for (int h = 0; h < s.hours; h++) {
            for (int p : comers) {
                if (s.persons.get(p).box == box && s.persons.get(p).hour == h) {
                    found.add(p);
                }
            }
        }
        return found;
    }

    /** What each one gets, by passing along the lines; -99 for those who do not come. */
    private static int[] pass(State s, List<Integer> comers) {
        int[] got = new int[s.persons.size()];
        java.util.Arrays.fill(got, -99);
        for (int b = 0; b < s.boxes; b++) {
            int lies = s.left.getOrDefault(b, -1);
            for (int p : line(s, b, comers)) {
                got[p] = lies;
                lies = s.persons.get(p).own;
            }
        }
        return got;
    }

    private int[] got() {
        return pass(state, everybody(state));
    }

    private static int total(State s, int[] got) {
        int sum = 0;
        for (int p = 0; p < got.length; p++) {
            if (got[p] != -99) {
                sum += costOf(s, p, got[p]);
            }
        }
        return sum;
    }

    private static List<List<Integer>> allOrders(List<Integer> of) {
        List<List<Integer>> found = new ArrayList<>();
        allOrders(new ArrayList<>(), of, found);
        return found;
    }

    private static void allOrders(List<Integer> ahead, List<Integer> rest, List<List<Integer>> into) {
        if (rest.isEmpty()) {
            into.add(new ArrayList<>(ahead));
            return;
        }
        for (Integer next : rest) {
            List<Integer> others = new ArrayList<>(rest);
            others.remove(next);
            ahead.add(next);
            allOrders(ahead, others, into);
            ahead.remove(ahead.size() - 1);
        }
    }

    private List<Integer> ofBox(int box) {
        List<Integer> found = line(state, box, everybody(state));
        Collections.sort(found);
        return found;
    }

    private Map<Integer, Integer> gotBy(int box, List<Integer> order) {
        Map<Integer, Integer> got = new TreeMap<>();
        int lies = state.left.getOrDefault(box, -1);
        for (int p : order) {
            got.put(p, lies);
            lies = who(p).own;
        }
        return got;
    }

    // ---- told ----

    public int penance(int penance) {
        return noPenance(penance) ? -2 : state.days.get(penance);
    }

    public int person(int person, int what) {
        if (noPerson(person) || what < 0 || what > 3) {
            return -2;
        }
        Person p = who(person);
        return new int[] {p.own, p.hour, p.box, p.bears}[what];
    }

    public int minds(int person, int penance) {
        return noPerson(person) || noPenance(penance) ? -2 : who(person).minds.getOrDefault(penance, 0);
    }

    public int cost(int person, int penance) {
        return noPerson(person) || penance != -1 && noPenance(penance) ? -2 : costOf(person, penance);
    }

    public int box(int box) {
        return noBox(box) ? -2 : state.left.getOrDefault(box, -1);
    }

    public int queue(int box, int k) {
        if (noBox(box)) {
            return -2;
        }
        List<Integer> line = line(state, box, everybody(state));
        return k < 0 || k >= line.size() ? -1 : line.get(k);
    }

    public int gets(int person) {
        return noPerson(person) ? -2 : got()[person];
    }

    public int giver(int person) {
        return noPerson(person) ? -2 : back(person, 1);
    }

    public int back(int person, int n) {
        if (noPerson(person) || n < 0 || n > 20) {
            return -2;
        }
        List<Integer> line = line(state, who(person).box, everybody(state));
        int at = line.indexOf(person) - n;
        return at < 0 ? -1 : line.get(at);
    }

    public int last(int box) {
        if (noBox(box)) {
            return -2;
        }
        List<Integer> line = line(state, box, everybody(state));
        return line.isEmpty() ? box(box) : who(line.get(line.size() - 1)).own;
    }

    public int bears(int box) {
        if (noBox(box)) {
            return -2;
        }
        int sum = 0;
        for (int p : line(state, box, everybody(state))) {
            sum += costOf(p, got()[p]);
        }
        return sum;
    }

    public int own() {
        if (noChurch()) {
            return -2;
        }
        int bits = 0;
        for (int p : everybody(state)) {
            bits += got()[p] == who(p).own ? 1 << p : 0;
        }
        return bits;
    }

    public int gain() {
        if (noChurch()) {
            return -2;
        }
        int bits = 0;
        for (int p : everybody(state)) {
            bits += costOf(p, got()[p]) < costOf(p, who(p).own) ? 1 << p : 0;
        }
        return bits;
    }

    public int worst() {
        if (noChurch()) {
            return -2;
        }
        int found = -1;
        int by = 0;
        for (int p : everybody(state)) {
            int more = costOf(p, got()[p]) - costOf(p, who(p).own);
            if (more > by) {
                by = more;
                found = p;
            }
        }
        return found;
    }

    public int passes(int penance) {
        if (noChurch() || penance != -1 && noPenance(penance)) {
            return -2;
        }
        int bits = 0;
        for (int p : everybody(state)) {
            bits += got()[p] == penance ? 1 << p : 0;
        }
        return bits;
    }

    public int ahead(int person) {
        return noPerson(person) ? -2 : line(state, who(person).box, everybody(state)).indexOf(person);
    }

    public int kneel(int person) {
        if (noPerson(person)) {
            return -2;
        }
        int[] got = got();
        int found = -1;
        for (int q : everybody(state)) {
            boolean less = costOf(person, got[q]) < costOf(person, got[person]);
            boolean agrees = costOf(q, got[person]) <= costOf(q, got[q]);
            if (q != person && less && agrees
                    && (found == -1 || costOf(person, got[q]) < costOf(person, got[found]))) {
                found = q;
            }
        }
        return found;
    }

    private TreeMap<Integer, Integer> bySins(int person) {
        TreeMap<Integer, Integer> least = new TreeMap<>();
        for (int penance = 0; penance < state.days.size(); penance++) {
            State other = state.copy();
            other.persons.get(person).own = penance;
            least.putIfAbsent(total(other, pass(other, everybody(other))), penance);
        }
        return least;
    }

    public int sins(int person) {
        return noPerson(person) ? -2 : bySins(person).firstKey();
    }

    public int sinned(int person) {
        return noPerson(person) ? -2 : bySins(person).firstEntry().getValue();
    }

    // ---- orders ----

    private int sumOf(int box, List<Integer> order) {
        int sum = 0;
        for (Map.Entry<Integer, Integer> e : gotBy(box, order).entrySet()) {
            sum += costOf(e.getKey(), e.getValue());
        }
        return sum;
    }

    public int best(int box) {
        if (noBox(box)) {
            return -2;
        }
        int least = Integer.MAX_VALUE;
        for (List<Integer> order : allOrders(ofBox(box))) {
            least = Math.min(least, sumOf(box, order));
        }
        return least;
    }

    public int orders(int box, int k) {
        if (noBox(box)) {
            return -2;
        }
        int best = best(box);
        for (List<Integer> order : allOrders(ofBox(box))) {
            if (sumOf(box, order) == best) {
                return k < 0 || k >= order.size() ? -1 : order.get(k);
            }
        }
        throw new IllegalStateException();
    }

    public int most(int box) {
        if (noBox(box)) {
            return -2;
        }
        int most = 0;
        for (List<Integer> order : allOrders(ofBox(box))) {
            most = Math.max(most, sumOf(box, order));
        }
        return most;
    }

    public int fair(int box) {
        if (noBox(box)) {
            return -2;
        }
        int least = Integer.MAX_VALUE;
        for (List<Integer> order : allOrders(ofBox(box))) {
            int greatest = 0;
            for (Map.Entry<Integer, Integer> e : gotBy(box, order).entrySet()) {
                greatest = Math.max(greatest, costOf(e.getKey(), e.getValue()));
            }
            least = Math.min(least, greatest);
        }
        return least;
    }

    public int likes(int box) {
        if (noBox(box)) {
            return -2;
        }
        int most = 0;
        for (List<Integer> order : allOrders(ofBox(box))) {
            int like = 0;
            for (Map.Entry<Integer, Integer> e : gotBy(box, order).entrySet()) {
                like += who(e.getKey()).own == e.getValue() ? 1 : 0;
            }
            most = Math.max(most, like);
        }
        return most;
    }

    public int ways(int box) {
        if (noBox(box)) {
            return -2;
        }
        int best = best(box);
        int many = 0;
        for (List<Integer> order : allOrders(ofBox(box))) {
            many += sumOf(box, order) == best ? 1 : 0;
        }
        return many;
    }

    // ---- hours ----

    private static int comes(State s, int person, int hour) {
        State other = s.copy();
        other.persons.get(person).hour = hour;
        return costOf(other, person, pass(other, everybody(other))[person]);
    }

    private static int hour(State s, int person) {
        int best = 0;
        for (int h = 0; h < s.hours; h++) {
            if (comes(s, person, h) < comes(s, person, best)) {
                best = h;
            }
        }
        return best;
    }

    private static boolean stirs(State s, int person) {
        int now = comes(s, person, s.persons.get(person).hour);
        for (int h = 0; h < s.hours; h++) {
            if (comes(s, person, h) < now) {
                return true;
            }
        }
        return false;
    }

    public int comes(int person, int hour) {
        return noPerson(person) || hour < 0 || hour >= state.hours ? -2 : comes(state, person, hour);
    }

    public int hour(int person) {
        return noPerson(person) ? -2 : hour(state, person);
    }

    public int stir() {
        if (noChurch()) {
            return -2;
        }
        int bits = 0;
        for (int p : everybody(state)) {
            bits += stirs(state, p) ? 1 << p : 0;
        }
        return bits;
    }

    /** The state behind each move, from none on; 61 moves are enough to see that it does not settle. */
    private List<State> moves() {
        List<State> found = new ArrayList<>();
        found.add(state.copy());
        while (found.size() <= 61) {
            State s = found.get(found.size() - 1);
            int mover = -1;
            for (int p : everybody(s)) {
                if (mover == -1 && stirs(s, p)) {
                    mover = p;
                }
            }
            if (mover == -1) {
                return found;
            }
            State next = s.copy();
            next.persons.get(mover).hour = hour(s, mover);
            found.add(next);
        }
        return found;
    }

    public int settles() {
        if (noChurch()) {
            return -2;
        }
        int moves = moves().size() - 1;
        return moves > 60 ? -1 : moves;
    }

    public int settled(int person) {
        if (noPerson(person)) {
            return -2;
        }
        List<State> moves = moves();
        return moves.size() - 1 > 60 ? -1 : moves.get(moves.size() - 1).persons.get(person).hour;
    }

    // ---- swaps and deals ----

    private List<Integer> asList(int[] got) {
        List<Integer> list = new ArrayList<>();
        for (int g : got) {
            list.add(g);
        }
        return list;
    }

    private int swapsFrom(List<Integer> start) {
        List<Integer> goal = new ArrayList<>();
        for (Person p : state.persons) {
            goal.add(p.own);
        }
        Map<List<Integer>, Integer> seen = new HashMap<>();
        ArrayDeque<List<Integer>> open = new ArrayDeque<>();
        seen.put(start, 0);
        open.add(start);
        while (!open.isEmpty()) {
            List<Integer> at = open.remove();
            if (at.equals(goal)) {
                return seen.get(at);
            }
            for (int i = 0; i < at.size(); i++) {
                for (int j = i + 1; j < at.size(); j++) {
                    List<Integer> next = new ArrayList<>(at);
                    Collections.swap(next, i, j);
                    if (!seen.containsKey(next)) {
                        seen.put(next, seen.get(at) + 1);
                        open.add(next);
                    }
                }
            }
        }
        return -1;
    }

    public int swaps() {
        return noChurch() ? -2 : swapsFrom(asList(got()));
    }

    public int swap(int what) {
        if (noChurch() || what < 0 || what > 1) {
            return -2;
        }
        List<Integer> got = asList(got());
        int now = swapsFrom(got);
        if (now <= 0) {
            return -1;
        }
        for (int i = 0; i < got.size(); i++) {
            for (int j = i + 1; j < got.size(); j++) {
                List<Integer> next = new ArrayList<>(got);
                Collections.swap(next, i, j);
                if (swapsFrom(next) == now - 1) {
                    return what == 0 ? i : j;
                }
            }
        }
        throw new IllegalStateException();
    }

    public int trades() {
        if (noChurch()) {
            return -2;
        }
        int[] got = got();
        int many = 0;
        for (int i = 0; i < got.length; i++) {
            for (int j = 0; j < i; j++) {
                if (costOf(i, got[j]) < costOf(i, got[i]) && costOf(j, got[i]) < costOf(j, got[j])) {
                    many++;
                }
            }
        }
        return many;
    }

    /** The least sum with the first deal of it: nothing is held for the greatest number. */
    private List<Integer> firstDeal() {
        int[] got = got();
        List<Integer> best = null;
        int least = Integer.MAX_VALUE;
        for (List<Integer> order : allOrders(everybody(state))) {
            List<Integer> dealt = new ArrayList<>();
            int sum = 0;
            for (int p = 0; p < got.length; p++) {
                int what = got[order.get(p)];
                sum += costOf(p, what);
                dealt.add(what == -1 ? 99 : what);
            }
            if (sum < least || sum == least && isLess(dealt, best)) {
                least = sum;
                best = dealt;
            }
        }
        best.add(least);
        return best;
    }

    private static boolean isLess(List<Integer> one, List<Integer> other) {
        for (int i = 0; i < one.size(); i++) {
            if (!one.get(i).equals(other.get(i))) {
                return one.get(i) < other.get(i);
            }
        }
        return false;
    }

    public int deal() {
        return noChurch() ? -2 : firstDeal().get(state.persons.size());
    }

    public int dealt(int person) {
        if (noPerson(person)) {
            return -2;
        }
        int what = firstDeal().get(person);
        return what == 99 ? -1 : what;
    }

    // ---- what was seen ----

    private List<Map<Integer, Integer>> fitting;
    private TreeSet<Integer> firstOnes;

    private int look(int slot, int box) {
        if (slot < 0 || slot > 3 || noBox(box)) {
            return -2;
        }
        if (rows[slot] == null) {
            return -6;
        }
        long[] row = rows[slot];
        if (row.length % 2 == 1) {
            return -2;
        }
        List<Integer> members = ofBox(box);
        for (int i = 0; i < row.length; i += 2) {
            boolean member = false;
            for (int p : members) {
                member |= p == row[i];
            }
            if (!member || row[i + 1] < -1 || row[i + 1] >= state.days.size()) {
                return -2;
            }
        }
        fitting = new ArrayList<>();
        firstOnes = new TreeSet<>();
        for (List<Integer> order : allOrders(members)) {
            Map<Integer, Integer> got = gotBy(box, order);
            boolean fits = true;
            for (int i = 0; i < row.length; i += 2) {
                fits &= got.get((int) row[i]) == row[i + 1];
            }
            if (fits) {
                fitting.add(got);
                if (!order.isEmpty()) {
                    firstOnes.add(order.get(0));
                }
            }
        }
        return 0;
    }

    public int fits(int slot, int box) {
        int no = look(slot, box);
        return no != 0 ? no : fitting.size();
    }

    public int firsts(int slot, int box) {
        int no = look(slot, box);
        int bits = 0;
        if (no == 0) {
            for (int p : firstOnes) {
                bits += 1 << p;
            }
        }
        return no != 0 ? no : bits;
    }

    public int may(int slot, int box, int person) {
        if (noPerson(person) || who(person).box != box) {
            return -2;
        }
        int no = look(slot, box);
        int bits = 0;
        if (no == 0) {
            for (Map<Integer, Integer> got : fitting) {
                bits |= 1 << (got.get(person) == -1 ? 8 : got.get(person));
            }
        }
        return no != 0 ? no : bits;
    }

    private int left(int person) {
        Map<Integer, Integer> many = new HashMap<>();
        for (Map<Integer, Integer> got : fitting) {
            many.merge(got.get(person), 1, Integer::sum);
        }
        return many.isEmpty() ? 0 : Collections.max(many.values());
    }

    private int[] asked(int box) {
        int found = -1;
        int fewest = fitting.size();
        for (int p : ofBox(box)) {
            if (left(p) < fewest) {
                fewest = left(p);
                found = p;
            }
        }
        return new int[] {found, fewest};
    }

    public int ask(int slot, int box) {
        int no = look(slot, box);
        return no != 0 ? no : asked(box)[0];
    }

    public int leaves(int slot, int box) {
        int no = look(slot, box);
        return no != 0 ? no : asked(box)[1];
    }

    // ---- means ----

    private boolean isOdd(int slot) {
        long[] row = rows[slot];
        if (row.length != state.days.size()) {
            return true;
        }
        long sum = 0;
        for (long v : row) {
            if (v < 0 || v > 9) {
                return true;
            }
            sum += v;
        }
        return sum == 0;
    }

    private BigInteger[] expect(int slot, int person, int n) {
        BigInteger above = BigInteger.ZERO;
        BigInteger below = BigInteger.ZERO;
        BigInteger[] later = n == 1 ? null : expect(slot, person, n - 1);
        for (int p = 0; p < rows[slot].length; p++) {
            BigInteger often = BigInteger.valueOf(rows[slot][p]);
            BigInteger cost = BigInteger.valueOf(costOf(person, p));
            BigInteger scale = later == null ? BigInteger.ONE : later[1];
            BigInteger value = cost.multiply(scale);
            if (later != null && value.compareTo(later[0]) > 0) {
                value = later[0];
            }
            above = above.add(often.multiply(value));
            below = below.add(often.multiply(scale));
        }
        BigInteger g = above.gcd(below);
        return new BigInteger[] {above.divide(g), below.divide(g)};
    }

    public long mean(int slot, int person, int what) {
        return pass(slot, person, 1, what);
    }

    public int choose(int person) {
        if (noPerson(person)) {
            return -2;
        }
        int found = -1;
        for (int slot = 0; slot < 4; slot++) {
            if (rows[slot] == null || isOdd(slot)) {
                continue;
            }
            if (found == -1) {
                found = slot;
                continue;
            }
            BigInteger[] a = expect(slot, person, 1);
            BigInteger[] b = expect(found, person, 1);
            if (a[0].multiply(b[1]).compareTo(b[0].multiply(a[1])) < 0) {
                found = slot;
            }
        }
        return found;
    }

    private int noMean(int slot, int person, int n) {
        if (slot < 0 || slot > 3 || noPerson(person) || n < 1 || n > 5) {
            return -2;
        }
        if (rows[slot] == null) {
            return -6;
        }
        return isOdd(slot) ? -2 : 0;
    }

    public long pass(int slot, int person, int n, int what) {
        if (what != 0 && what != 1) {
            return -2;
        }
        int no = noMean(slot, person, n);
        return no != 0 ? no : expect(slot, person, n)[what].longValueExact();
    }

    public int takes(int slot, int person, int n) {
        int no = noMean(slot, person, n);
        if (no != 0 || n == 1) {
            return no != 0 ? no : 1000000;
        }
        BigInteger[] later = expect(slot, person, n - 1);
        int c = 0;
        while (BigInteger.valueOf(c + 1).multiply(later[1]).compareTo(later[0]) <= 0) {
            c++;
        }
        return c;
    }

    // ---- acts: all is told anew from the list of acts ----

    private Map<Integer, Integer> lying;
    private Map<Integer, Integer> held;

    private void replay() {
        lying = new HashMap<>(state.left);
        held = new TreeMap<>();
        for (int[] act : state.acts) {
            if (act.length == 1) {
                Person p = who(act[0]);
                held.put(act[0], lying.getOrDefault(p.box, -1));
                lying.put(p.box, p.own);
            } else {
                int kept = held.get(act[0]);
                held.put(act[0], held.get(act[1]));
                held.put(act[1], kept);
            }
        }
    }

    public int confess(int person) {
        if (noPerson(person)) {
            return -2;
        }
        replay();
        if (held.containsKey(person) || state.acts.size() == 40) {
            return -5;
        }
        state.acts.add(new int[] {person});
        replay();
        return held.get(person);
    }

    public int clear(int person, int other) {
        if (noPerson(person) || noPerson(other) || person == other) {
            return -2;
        }
        replay();
        if (!held.containsKey(person) || !held.containsKey(other) || state.acts.size() == 40) {
            return -5;
        }
        state.acts.add(new int[] {person, other});
        return 0;
    }

    public int now(int box) {
        if (noBox(box)) {
            return -2;
        }
        replay();
        return lying.getOrDefault(box, -1);
    }

    public int has(int person) {
        if (noPerson(person)) {
            return -2;
        }
        replay();
        return held.getOrDefault(person, -3);
    }

    public int done() {
        if (noChurch()) {
            return -2;
        }
        replay();
        int bits = 0;
        for (int p : held.keySet()) {
            bits += 1 << p;
        }
        return bits;
    }

    public int sum() {
        if (noChurch()) {
            return -2;
        }
        replay();
        int sum = 0;
        for (Map.Entry<Integer, Integer> e : held.entrySet()) {
            sum += costOf(e.getKey(), e.getValue());
        }
        return sum;
    }

    public int undo() {
        if (noChurch()) {
            return -2;
        }
        if (state.acts.isEmpty()) {
            return -5;
        }
        state.acts.remove(state.acts.size() - 1);
        return state.acts.size();
    }

    public int anew() {
        if (noChurch()) {
            return -2;
        }
        int were = state.acts.size();
        state.acts.clear();
        return were;
    }

    // ---- weeks ----

    private List<Integer> comers(long seed) {
        List<Integer> found = new ArrayList<>();
        BigInteger x = BigInteger.valueOf(seed);
        for (int p : everybody(state)) {
            x = x.multiply(BigInteger.valueOf(1103515245)).add(BigInteger.valueOf(12345)).mod(BigInteger.ONE.shiftLeft(31));
            if (x.shiftRight(16).intValue() % 100 < state.odds) {
                found.add(p);
            }
        }
        return found;
    }

    public int drawn(int seed, int what) {
        if (noChurch() || seed < 0 || seed > 2000000000 || what < 0 || what > 1) {
            return -2;
        }
        if (what == 1) {
            return total(state, pass(state, comers(seed)));
        }
        int bits = 0;
        for (int p : comers(seed)) {
            bits += 1 << p;
        }
        return bits;
    }

    public int fate(int seed, int person) {
        if (noPerson(person) || seed < 0 || seed > 2000000000) {
            return -2;
        }
        int got = pass(state, comers(seed))[person];
        return got == -99 ? -1 : got;
    }

    public int luck(int seed, int n, int person) {
        if (noPerson(person) || seed < 0 || seed > 2000000000 || n < 1 || n > 20) {
            return -2;
        }
        int many = 0;
        for (int i = 0; i < n; i++) {
            int got = pass(state, comers((long) seed + i))[person];
            int cost = got == -99 ? 0 : costOf(person, got);
            many += cost <= costOf(person, who(person).own) ? 1 : 0;
        }
        return many;
    }

    // ---- changes ----

    public int set(int penance, int n) {
        if (noPenance(penance) || n < 0 || n > 99) {
            return -2;
        }
        return state.acts.isEmpty() ? state.days.set(penance, n) : -5;
    }

    public int move(int person, int hour) {
        if (noPerson(person) || hour < 0 || hour >= state.hours) {
            return -2;
        }
        if (!state.acts.isEmpty()) {
            return -5;
        }
        int was = who(person).hour;
        who(person).hour = hour;
        return was;
    }

    public int count(int what) {
        int slots = 0;
        for (long[] row : rows) {
            slots += row == null ? 0 : 1;
        }
        int[] all = {state.hours, state.boxes, state.odds, state.days.size(), state.persons.size(), state.acts.size(),
            state.lines, tape.length(), slots};
        return what < 0 || what > 8 ? -1 : all[what];
    }

    public int image(int k) {
        if (k < 0 || k > 2) {
            return -2;
        }
        images[k] = state.copy();
        return 0;
    }

    public int again(int k) {
        if (k < 0 || k > 2) {
            return -2;
        }
        if (images[k] == null) {
            return -6;
        }
        state = images[k].copy();
        return 0;
    }

    // ---- slots ----

    public int row(int slot, int width, int n) {
        if (slot < 0 || slot > 3 || width < 0 || width > 3 || n > 60) {
            return -2;
        }
        if (n < 0) {
            return -3;
        }
        rows[slot] = new long[n];
        widths[slot] = width;
        return 0;
    }

    public int write(int slot, int i, long v) {
        if (slot < 0 || slot > 3) {
            return -2;
        }
        if (rows[slot] == null) {
            return -6;
        }
        if (i < 0 || i >= rows[slot].length) {
            return -7;
        }
        int away = 64 - (8 << widths[slot]);
        rows[slot][i] = v << away >> away;
        return 0;
    }

    public int paste(int slot, int i, int to, int k, int n) {
        if (slot < 0 || slot > 3 || to < 0 || to > 3) {
            return -2;
        }
        if (rows[slot] == null || rows[to] == null) {
            return -6;
        }
        if (widths[slot] != widths[to]) {
            return -8;
        }
        if (i < 0 || k < 0 || n < 0 || (long) i + n > rows[slot].length || (long) k + n > rows[to].length) {
            return -7;
        }
        long[] were = rows[slot].clone();
        for (int j = 0; j < n; j++) {
            rows[to][k + j] = were[i + j];
        }
        return 0;
    }
}
