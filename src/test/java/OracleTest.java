import java.lang.reflect.Method;
import java.util.ArrayList;
import java.util.Arrays;
import java.util.List;
import java.util.Random;

/** Random runs of calls on the class and on the oracle: every answer must be the same. The seeds are fixed. */
public final class OracleTest {
    private static final int RUNS = 1200;
    private static final int CALLS = 500;

    /** Each method with the kinds of its arguments. */
    private static final String[] CALLABLE = {
        "church", "fault what", "penance penance", "person person what", "minds person penance",
        "cost person penance", "box box", "queue box place", "gets person", "giver person", "back person place",
        "last box", "bears box", "own", "gain", "worst", "passes penance", "ahead person", "kneel person",
        "sins person", "sinned person", "best box", "orders box place", "most box", "fair box", "likes box",
        "ways box", "comes person hour", "hour person", "stir", "settles", "settled person", "swaps", "swap what",
        "trades", "deal", "dealt person", "fits slot box", "firsts slot box", "may slot box person", "ask slot box",
        "leaves slot box", "mean slot person what", "choose person", "pass slot person seen what",
        "takes slot person seen", "confess person", "confess person", "confess person", "clear person person",
        "clear person person", "now box", "has person", "done", "sum", "undo", "anew", "drawn seed what",
        "fate seed person", "luck seed weeks person", "set penance days", "move person hour", "count what",
        "image image", "again image", "row slot width length", "write slot place value", "write slot place value",
        "paste slot place slot place length", "end length",
    };

    private final Random random;
    private final PassedPenance real = new PassedPenance();
    private final Oracle due = new Oracle();
    private final List<String> told = new ArrayList<>();
    private int persons = 3;
    private int penances = 3;
    private int boxes = 2;
    private int calls = 0;

    private OracleTest(long seed) {
        random = new Random(seed);
    }

    public static void main(String[] args) throws Exception {
        int wrong = 0;
        long compared = 0;
        for (int seed = 0; seed < RUNS && wrong < 5; seed++) {
            OracleTest test = new OracleTest(seed);
            if (!test.run(seed)) {
                wrong++;
            }
            compared += test.calls;
        }
        System.out.println(compared + " calls compared, " + wrong + " runs went wrong");
        if (wrong != 0) {
            System.exit(1);
        }
    }

    private boolean run(int seed) throws Exception {
        // Large churches are dear for the oracle, so few runs have them.
        int mostPersons = seed % 40 == 0 ? 7 : 5;
        boolean good = feedText(mostPersons);
        while (good && calls < CALLS) {
            int dice = random.nextInt(100);
            if (dice < 1) {
                good = feedText(mostPersons);
            } else if (dice < 4) {
                good = feedBytes(randomBytes());
            } else if (dice < 12) {
                good = layMeanRow();
            } else if (dice < 20) {
                good = laySeenRow();
            } else {
                String[] words = CALLABLE[random.nextInt(CALLABLE.length)].split(" ");
                boolean rare = words[0].equals("anew") || words[0].equals("church") || words[0].equals("end");
                good = rare && random.nextInt(4) > 0 || callRandom(words);
            }
        }
        return good;
    }

    private boolean callRandom(String[] words) throws Exception {
        Object[] args = new Object[words.length - 1];
        for (int i = 0; i < args.length; i++) {
            args[i] = argument(words[i + 1]);
        }
        return same(words[0], args);
    }

    private int around(int bound) {
        return random.nextInt(12) == 0 ? bound + random.nextInt(3) - 1 - random.nextInt(2) * (bound + 1)
                : bound > 0 ? random.nextInt(bound) : 0;
    }

    private Object argument(String kind) {
        if (!kind.equals("value") && random.nextInt(60) == 0) {
            int[] wild = {Integer.MIN_VALUE, Integer.MAX_VALUE, -2, -1, 100, 1 << 30, 61, 60, 40, 21, 20};
            return wild[random.nextInt(wild.length)];
        }
        switch (kind) {
            case "what": return around(4);
            case "penance": return around(penances);
            case "person": return around(persons);
            case "box": return around(boxes);
            case "place": return around(6);
            case "hour": return around(5);
            case "slot": return random.nextInt(20) == 0 ? random.nextInt(7) - 2 : random.nextInt(4);
            case "seen": return around(6);
            case "seed": return random.nextBoolean() ? random.nextInt(2000000001) : 2000000000 - random.nextInt(3);
            case "weeks": return 1 + around(20);
            case "days": return around(100);
            case "image": return around(3);
            case "width": return around(4);
            case "length": return around(random.nextBoolean() ? 8 : 61);
            default: return random.nextInt(4) == 0 ? random.nextLong() : random.nextInt(12) - 2;
        }
    }

    private boolean same(String name, Object... args) throws Exception {
        calls++;
        Method ours = null;
        for (Method m : PassedPenance.class.getMethods()) {
            if (m.getName().equals(name) && m.getParameterCount() == args.length) {
                ours = m;
            }
        }
        Method theirs = Oracle.class.getMethod(name, ours.getParameterTypes());
        long got = ((Number) ours.invoke(real, args)).longValue();
        long want = ((Number) theirs.invoke(due, args)).longValue();
        told.add(name + Arrays.toString(args) + " " + got);
        if (got == want) {
            return true;
        }
        for (String line : told) {
            System.out.println(line);
        }
        System.out.println("due was " + want);
        return false;
    }

    // ---- texts ----

    private boolean feedText(int mostPersons) throws Exception {
        byte[] text = churchText(mostPersons).getBytes(java.nio.charset.StandardCharsets.ISO_8859_1);
        // What a fault or wild bytes left on the tape is mostly taken away, else few texts would be churches.
        if (real.count(7) > 0 && random.nextInt(8) > 0 && !same("end", 0)) {
            return false;
        }
        int length = real.count(7) + text.length;
        if (!feedBytes(text) || random.nextInt(10) > 0 && !same("end", Math.min(length, real.count(7)))) {
            return false;
        }
        return same("church") && same("fault", 0) && same("fault", 1) && same("count", 7);
    }

    private byte[] randomBytes() {
        byte[] bytes = new byte[random.nextInt(60)];
        random.nextBytes(bytes);
        return bytes;
    }

    private boolean feedBytes(byte[] text) throws Exception {
        for (int i = 0; i < text.length; i += 20) {
            Object[] numbers = new Object[5];
            for (int k = 0; k < 5; k++) {
                int number = 0;
                for (int j = 0; j < 4; j++) {
                    int at = i + 4 * k + j;
                    number = number << 8 | (at < text.length ? text[at] & 255 : random.nextInt(256));
                }
                numbers[k] = number;
            }
            if (!same("feed", numbers)) {
                return false;
            }
        }
        return true;
    }

    private String blank() {
        return random.nextInt(8) == 0 ? random.nextBoolean() ? "\n" : "  " : " ";
    }

    private String churchText(int mostPersons) {
        int hours = 1 + random.nextInt(6);
        boxes = 1 + random.nextInt(3);
        penances = random.nextInt(20) == 0 ? random.nextInt(10) : 1 + random.nextInt(5);
        persons = random.nextInt(15) == 0 ? random.nextInt(9) : random.nextInt(mostPersons + 1);
        persons = Math.min(persons, mostPersons + 1);
        int mostDays = random.nextBoolean() ? 4 : 100;
        List<String> tokens = new ArrayList<>();
        add(tokens, "church hours " + hours + " boxes " + boxes + " odds " + random.nextInt(101) + " ;");
        for (int i = 0; i < penances; i++) {
            add(tokens, "penance days " + random.nextInt(mostDays) + " ;");
        }
        int boxesUsed = random.nextBoolean() ? 1 : boxes;
        for (int i = 0; i < persons; i++) {
            int sin = penances == 0 ? 0 : random.nextInt(penances);
            String box = random.nextInt(3) == 0 ? "" : " box " + random.nextInt(boxesUsed);
            StringBuilder minds = new StringBuilder();
            for (int m = random.nextInt(4); m > 0; m--) {
                minds.append(" minds ").append(penances == 0 ? 0 : random.nextInt(penances)).append(' ')
                        .append(random.nextInt(random.nextBoolean() ? 6 : 1000));
            }
            add(tokens, "person sin " + sin + " at " + random.nextInt(hours) + box + " bears "
                    + (1 + random.nextInt(random.nextBoolean() ? 2 : 9)) + minds + " ;");
        }
        for (int i = random.nextInt(4); i > 0 && penances > 0; i--) {
            add(tokens, "left " + random.nextInt(boxes) + " " + random.nextInt(penances) + " ;");
        }
        if (random.nextInt(3) == 0) {
            spoil(tokens);
        }
        StringBuilder text = new StringBuilder();
        for (String token : tokens) {
            text.append(token).append(token.equals(";") && random.nextBoolean() ? "" : blank());
        }
        return text.toString();
    }

    private static void add(List<String> tokens, String line) {
        tokens.addAll(Arrays.asList(line.split(" ")));
    }

    private void spoil(List<String> tokens) {
        String[] odd = {";", "church", "penance", "person", "left", "minds", "box", "A", "\t", "\u00e9", "0", "7", "12",
            "13", "99", "100", "101", "999", "1000", "00003", "4294967297", "boxx", "hours", ""};
        int at = random.nextInt(tokens.size());
        switch (random.nextInt(4)) {
            case 0: tokens.remove(at); break;
            case 1: tokens.set(at, odd[random.nextInt(odd.length)]); break;
            case 2: tokens.add(at, odd[random.nextInt(odd.length)]); break;
            default:
                while (tokens.size() > at) {
                    tokens.remove(tokens.size() - 1);
                }
        }
    }

    // ---- rows ----

    private boolean layMeanRow() throws Exception {
        int slot = random.nextInt(4);
        int length = random.nextInt(12) == 0 ? random.nextInt(9) : real.count(3);
        if (!same("row", slot, random.nextInt(4), length)) {
            return false;
        }
        for (int i = 0; i < length; i++) {
            long often = random.nextInt(60) == 0 ? random.nextInt(14) - 2 : random.nextInt(10);
            if (random.nextInt(3) > 0 && !same("write", slot, i, often)) {
                return false;
            }
        }
        int who = random.nextInt(Math.max(1, real.count(4)));
        return same("mean", slot, who, 0) && same("pass", slot, who, 1 + random.nextInt(5), 0)
                && same("takes", slot, who, 1 + random.nextInt(5)) && same("choose", who);
    }

    private boolean laySeenRow() throws Exception {
        int slot = random.nextInt(4);
        int pairs = random.nextInt(3);
        int box = random.nextInt(boxes);
        if (!same("row", slot, random.nextInt(4), 2 * pairs + (random.nextInt(20) == 0 ? 1 : 0))) {
            return false;
        }
        for (int i = 0; i < pairs; i++) {
            int who = random.nextInt(Math.max(1, real.count(4)));
            if (random.nextInt(5) > 0 && real.queue(box, 0) >= 0) {
                who = real.queue(box, random.nextInt(persons + 1));
            }
            long what = random.nextInt(3) > 0 && real.gets(who) >= -1 ? real.gets(who)
                    : random.nextInt(Math.max(1, penances) + 2) - 1;
            if (!same("write", slot, 2 * i, (long) who) || !same("write", slot, 2 * i + 1, what)) {
                return false;
            }
        }
        return same("fits", slot, box) && same("firsts", slot, box) && same("ask", slot, box)
                && same("leaves", slot, box) && same("may", slot, box, random.nextInt(Math.max(1, persons)));
    }
}
