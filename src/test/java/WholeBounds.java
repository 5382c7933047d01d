import java.io.IOException;
import java.lang.reflect.Constructor;
import java.lang.reflect.Field;
import java.lang.reflect.Method;
import java.lang.reflect.Modifier;
import java.nio.file.Files;
import java.nio.file.Path;
import java.util.ArrayList;
import java.util.List;
import java.util.function.Supplier;
import java.util.regex.Matcher;
import java.util.regex.Pattern;

/** What the document says of the class as a whole: what it is, its public face, what is not promised. */
final class WholeBounds {
    private static final String WHAT = "What it is";
    private static final String FACE = "The public face";
    private static final String FREE = "Not promised";
    private static final int MOST_CALLS = 512;
    private static final Path SOURCE = Path.of("src/main/java/PassedPenance.java");
    private static final Path DOCUMENT = Path.of("../shared/DOC.md");
    private static final Pattern METHOD = Pattern.compile("public (int|long) (\\w+)\\(([^)]*)\\);");
    private static final Pattern HEAD = Pattern.compile("(?m)^## Promise ([0-9]+): (.*)\\n\\n`([^`]*)`: ");

    /** Every question, on what there is and what not; none of them changes anything. */
    private static final Sentences.Call[] QUESTIONS = {x -> x.fault(0), x -> x.fault(1), x -> x.fault(2), x -> x.penance(0),
        x -> x.penance(3), x -> x.person(1, 0), x -> x.person(1, 4), x -> x.minds(1, 2), x -> x.minds(4, 2), x -> x.cost(1, 2),
        x -> x.cost(1, -1), x -> x.cost(4, 0), x -> x.box(0), x -> x.box(2), x -> x.queue(0, 1), x -> x.queue(0, 3),
        x -> x.gets(2), x -> x.gets(4), x -> x.giver(2), x -> x.back(2, 2), x -> x.back(2, 21), x -> x.last(0), x -> x.bears(0),
        x -> x.own(), x -> x.gain(), x -> x.worst(), x -> x.passes(0), x -> x.passes(-1), x -> x.ahead(2), x -> x.kneel(0),
        x -> x.kneel(1), x -> x.sins(0), x -> x.sins(1), x -> x.sinned(0), x -> x.sinned(1), x -> x.best(0), x -> x.orders(0, 2),
        x -> x.most(0), x -> x.fair(0), x -> x.likes(0), x -> x.ways(0), x -> x.best(2), x -> x.comes(0, 3), x -> x.comes(0, 4),
        x -> x.hour(1), x -> x.stir(), x -> x.settles(), x -> x.settled(0), x -> x.settled(4), x -> x.swaps(), x -> x.swap(0),
        x -> x.swap(2), x -> x.trades(), x -> x.deal(), x -> x.dealt(3), x -> x.fits(1, 0), x -> x.fits(0, 0), x -> x.fits(3, 0),
        x -> x.firsts(1, 0), x -> x.may(1, 0, 2), x -> x.ask(2, 0), x -> x.leaves(2, 0), x -> x.mean(0, 0, 0), x -> x.mean(1, 0, 0),
        x -> x.choose(0), x -> x.pass(0, 0, 5, 0), x -> x.takes(0, 0, 5), x -> x.now(0), x -> x.has(0), x -> x.has(2),
        x -> x.done(), x -> x.sum(), x -> x.drawn(3, 0), x -> x.drawn(3, 1), x -> x.fate(3, 0), x -> x.luck(3, 20, 0),
        x -> x.count(5), x -> x.count(9)};

    private final Sentences s;

    WholeBounds(Sentences s) {
        this.s = s;
    }

    void run() throws IOException {
        whatItIs();
        asksAndActs();
        mostCalls();
        laterCalls();
        faceOfClass();
        faceOfMethods();
        headsOfPromises();
        heldInside();
        severalObjects();
        nothingElse();
    }

    // ---- what it is ----

    private void whatItIs() {
        PassedPenance x = Made.sample();
        s.of(WHAT, "The penance is passed on: a church told as a text, of penances, persons with what is theirs, when they "
                + "come, to which box, what they bear, what they mind, and what lies in boxes;");
        s.dueAll("told", new long[] {x.count(6), x.penance(1), x.person(3, 0), x.person(3, 1), x.person(3, 2), x.person(2, 3),
            x.minds(1, 2), x.box(0), x.box(1)}, 10, 10, 0, 2, 1, 3, 7, 2, -1);
        s.of(WHAT, "who gets what, whose it was;");
        s.dueAll("passed on", new long[] {x.gets(1), x.gets(0), x.gets(2), x.giver(1), x.giver(0), x.giver(2)}, 2, 1, 0, -1, 1, 0);
        s.of(WHAT, "orders by which all bear least, are fair, have their own;");
        // Behind 2, who told what 0 minds least, comes 0; 1 comes behind him.
        s.dueAll("orders", new long[] {x.best(0), x.orders(0, 0), x.orders(0, 1), x.orders(0, 2), x.fair(0), x.likes(0)},
                8, 2, 0, 1, 3, 1);
        s.of(WHAT, "hours that one would choose, how it settles;");
        s.dueAll("hours", new long[] {x.hour(0), x.hour(1), x.settles(), x.settled(0)}, 0, 1, 1, 0);
        s.of(WHAT, "swaps by which all have theirs, trades, deals;");
        // 3 gets nothing, so they can't all have theirs.
        s.dueAll("swaps", new long[] {x.swaps(), x.trades(), x.deal()}, -1, 1, 15);
        s.of(WHAT, "orders that fit what was seen, what to ask;");
        Check.lay(x, 0, 0, 2);
        s.dueAll("seen", new long[] {x.fits(0, 0), x.ask(0, 0)}, 4, 1);
        s.of(WHAT, "means, boxes chosen, how many to let pass;");
        Check.lay(x, 1, 1, 0, 1);
        // 6 and 2 have the mean 4; he lets 6 pass, and has 4 by half of the first, 2 by the other half.
        s.dueAll("means", new long[] {x.mean(1, 0, 0), x.mean(1, 0, 1), x.choose(0), x.pass(1, 0, 2, 0), x.pass(1, 0, 2, 1),
            x.takes(1, 0, 2)}, 4, 1, 1, 3, 1, 4);
    }

    private void asksAndActs() {
        PassedPenance x = Made.sample();
        s.of(WHAT, "confessions, clearings, taken back;");
        s.dueAll("acts", new long[] {x.confess(0), x.confess(1), x.clear(0, 1), x.has(0), x.undo(), x.has(0), x.anew(), x.has(0)},
                2, 0, 0, 0, 2, 2, 2, -3);
        s.of(WHAT, "weeks drawn; and images gone back to.");
        s.dueAll("weeks, images", new long[] {x.drawn(1, 0), x.image(0), x.move(0, 3), x.drawn(1, 1), x.again(0), x.person(0, 1),
            x.drawn(1, 1)}, 13, 0, 1, 5, 0, 1, 11);
    }

    // ---- calls ----

    /** The sample church, an object that has been called so often. */
    private static PassedPenance called(int calls) {
        PassedPenance x = Made.sample();
        int done = 3 + (Made.SAMPLE.length() + 19) / 20;
        for (; done + 8 <= calls; done += 8) {
            int round = done / 8;
            x.confess(round % 4);
            x.confess(round / 4 % 4);
            x.image(round % 3);
            x.settles();
            x.row(round % 4, round / 4 % 4, 60);
            x.fits(round % 4, 0);
            x.again(round % 3);
            x.anew();
        }
        for (; done < calls; done++) {
            x.count(done % 9);
        }
        return x;
    }

    private void mostCalls() {
        s.of(WHAT, "An object is used for at most 512 calls after it has been made;");
        PassedPenance fresh = called(100);
        s.due("an object of a hundred calls", fresh.count(4), 4);
        for (int i = 0; i < QUESTIONS.length; i++) {
            long due = QUESTIONS[i].of(rowsLaid(called(100)));
            s.due("question " + i + " as the last call", QUESTIONS[i].of(rowsLaid(called(MOST_CALLS - 7))), due);
        }
        s.dueAll("acts as the last calls", new long[] {called(MOST_CALLS - 1).confess(0), called(MOST_CALLS - 1).row(3, 3, 60),
            called(MOST_CALLS - 1).set(0, 9), called(MOST_CALLS - 1).move(0, 3), called(MOST_CALLS - 1).feed(1, 2, 3, 4, 5),
            called(MOST_CALLS - 1).church(), called(MOST_CALLS - 1).image(2)}, 2, 0, 3, 1, 20, 0, 0);
    }

    /** Six calls more. */
    private static PassedPenance rowsLaid(PassedPenance x) {
        x.row(0, 1, 3);
        x.row(1, 1, 2);
        x.write(1, 1, 2);
        x.row(2, 3, 0);
        x.row(3, 0, 0);
        x.write(0, 2, 9);
        return x;
    }

    private void laterCalls() {
        s.of(WHAT, "what later calls answer is free.");
        // Free, but they end, and nothing is thrown.
        PassedPenance x = called(20 * MOST_CALLS);
        long answered = 0;
        for (Sentences.Call question : QUESTIONS) {
            question.of(x);
            answered++;
        }
        s.due("later calls end", answered, QUESTIONS.length);
    }

    // ---- the public face ----

    private void faceOfClass() {
        Class<PassedPenance> face = PassedPenance.class;
        s.of(FACE, "public final class PassedPenance {");
        s.due("public and final", face.getModifiers() & (Modifier.PUBLIC | Modifier.FINAL | Modifier.ABSTRACT),
                Modifier.PUBLIC | Modifier.FINAL);
        s.due("of no other class", face.getSuperclass() == Object.class && face.getInterfaces().length == 0 ? 1 : 0, 1);
        s.due("without a package", face.getPackageName().length(), 0);
        s.of(FACE, "public static final int NONE = -1;");
        s.due("NONE", PassedPenance.NONE, -1);
        s.dueAll("a constant, the only one to be seen", new long[] {face.getFields().length, visible(face.getDeclaredFields())}, 1, 1);
        s.due("static and final", face.getFields()[0].getModifiers(), Modifier.PUBLIC | Modifier.STATIC | Modifier.FINAL);
        s.due("an int", face.getFields()[0].getType() == int.class ? 1 : 0, 1);
        s.of(FACE, "public PassedPenance();");
        Constructor<?>[] made = face.getDeclaredConstructors();
        s.dueAll("one constructor", new long[] {made.length, made[0].getModifiers(), made[0].getParameterCount(),
            made[0].getExceptionTypes().length}, 1, Modifier.PUBLIC, 0, 0);
    }

    private static int visible(Field[] fields) {
        int many = 0;
        for (Field field : fields) {
            many += Modifier.isPrivate(field.getModifiers()) ? 0 : 1;
        }
        return many;
    }

    private void faceOfMethods() throws IOException {
        String source = Files.readString(SOURCE);
        List<String> lines = new ArrayList<>();
        for (String line : s.linesOf(FACE)) {
            Matcher method = METHOD.matcher(line.trim());
            if (method.matches()) {
                lines.add(line.trim());
                s.of(FACE, line.trim());
                s.due("it stands so in the source", source.contains("\n" + line.replace(";", " {") + "\n") ? 1 : 0, 1);
                s.due("answers " + method.group(1), methodsLike(method), 1);
            }
        }
        int seen = 0;
        for (Method m : PassedPenance.class.getDeclaredMethods()) {
            seen += Modifier.isPrivate(m.getModifiers()) ? 0 : 1;
        }
        s.dueAll("so many methods, and no other", new long[] {lines.size(), seen}, 67, 67);
    }

    /** How many public methods have this name, these parameters, this answer. */
    private static int methodsLike(Matcher line) {
        int many = 0;
        for (Method m : PassedPenance.class.getDeclaredMethods()) {
            StringBuilder kinds = new StringBuilder();
            for (Class<?> kind : m.getParameterTypes()) {
                kinds.append(kinds.length() == 0 ? "" : ", ").append(kind.getName());
            }
            boolean isLike = m.getName().equals(line.group(2)) && m.getReturnType().getName().equals(line.group(1))
                    && kinds.toString().equals(line.group(3).replaceAll(" \\w+(,|$)", "$1"));
            many += isLike && m.getModifiers() == Modifier.PUBLIC && m.getExceptionTypes().length == 0 ? 1 : 0;
        }
        return many;
    }

    /** The promises go through the face from its first method to its last. */
    private void headsOfPromises() throws IOException {
        List<String> heads = new ArrayList<>();
        Matcher promises = HEAD.matcher(Files.readString(DOCUMENT));
        while (promises.find()) {
            heads.add(promises.group(3));
            s.due("promise " + promises.group(2), Integer.parseInt(promises.group(1)), heads.size());
        }
        List<String> face = new ArrayList<>();
        for (String line : s.linesOf(FACE)) {
            if (line.endsWith(");")) {
                face.add(line.trim().replaceAll("^public |;$", ""));
            }
        }
        s.due("the promises are those of the face", heads.equals(face) ? 1 : 0, 1);
    }

    // ---- not promised ----

    private void heldInside() {
        s.of(FREE, "How the state is held inside the object is free, as are the speed of each call, the text of toString and "
                + "the behaviour of equals and hashCode.");
        for (Method m : PassedPenance.class.getDeclaredMethods()) {
            boolean isFree = List.of("toString", "equals", "hashCode", "clone", "finalize", "compareTo").contains(m.getName());
            s.due(m.getName() + " is not of the free ones", isFree ? 1 : 0, 0);
        }
        s.due("all is held inside", PassedPenance.class.getFields().length, 1);
    }

    private void severalObjects() {
        s.of(FREE, "Use of one object from several threads at once is not promised to be safe.");
        // Of several objects each is as if it were alone.
        PassedPenance alone = Made.busy();
        PassedPenance x = Made.busy();
        PassedPenance y = Made.full();
        for (Sentences.Call question : QUESTIONS) {
            long due = question.of(alone);
            question.of(y);
            y.confess(0);
            y.row(1, 0, 60);
            s.due("answer", question.of(x), due);
        }
        s.dueAll("what it is", Made.state(x), Made.state(alone));
    }

    /** What a part of an object answers; a part is looked at on an object of its own. */
    private interface Part {
        long[] of(PassedPenance x);
    }

    private static final Part[] PARTS = {WholeBounds::fault, WholeBounds::tape, WholeBounds::church, WholeBounds::acts,
        WholeBounds::slots, WholeBounds::images};

    private static long[] fault(PassedPenance x) {
        return new long[] {x.fault(0), x.fault(1)};
    }

    /** The text that is on the tape, by the church that it tells with what is missing. */
    private static long[] tape(PassedPenance x) {
        long bytes = x.count(7);
        Check.feed(x, " 2 odds 70;");
        return new long[] {bytes, x.church(), x.count(0), x.count(1), x.count(2), x.fault(0), x.fault(1)};
    }

    private static long[] church(PassedPenance x) {
        long[] seen = {x.count(0), x.count(1), x.count(2), x.count(3), x.count(4), x.count(6), x.penance(0), x.penance(1),
            x.penance(2), x.box(0), x.box(1), x.minds(1, 2), x.minds(0, 2)};
        long[] answers = Made.answers(x);
        long[] all = java.util.Arrays.copyOf(seen, seen.length + answers.length);
        System.arraycopy(answers, 0, all, seen.length, answers.length);
        return all;
    }

    private static long[] acts(PassedPenance x) {
        return new long[] {x.count(5), x.done(), x.has(0), x.has(1), x.has(2), x.has(3), x.now(0), x.now(1), x.undo(), x.done(),
            x.has(0), x.has(1), x.now(0), x.undo(), x.done(), x.undo()};
    }

    /** The rows, in the sample church. */
    private static long[] slots(PassedPenance x) {
        x.end(0);
        Check.tell(x, Made.SAMPLE);
        long[] seen = new long[20];
        int n = 0;
        seen[n++] = x.count(8);
        for (int slot = 0; slot < 4; slot++) {
            seen[n++] = x.mean(slot, 1, 0);
            seen[n++] = x.fits(slot, 0);
            seen[n++] = x.paste(slot, 0, 0, 0, 0);
        }
        for (int slot = 0; slot < 4; slot++) {
            seen[n++] = Made.lengthOf(x, slot);
        }
        return seen;
    }

    private static long[] images(PassedPenance x) {
        long[] seen = new long[21];
        for (int k = 0; k < 3; k++) {
            // Without a church, so that an image that has nothing shows none.
            x.end(0);
            x.church();
            long[] of = {x.again(k), x.count(5), x.count(6), x.done(), x.count(3), x.penance(0), x.person(0, 1)};
            System.arraycopy(of, 0, seen, 7 * k, 7);
        }
        return seen;
    }

    /** A call changes these parts (bits) and no others. */
    private void changes(String what, int parts, Supplier<PassedPenance> made, Sentences.Call call) {
        for (int i = 0; i < PARTS.length; i++) {
            PassedPenance x = made.get();
            call.of(x);
            long[] before = PARTS[i].of(made.get());
            long[] behind = PARTS[i].of(x);
            boolean isSame = java.util.Arrays.equals(before, behind);
            s.due(what + " changes part " + i, isSame ? 0 : 1, parts >> i & 1);
        }
    }

    private static PassedPenance faulty() {
        PassedPenance x = Made.still();
        Check.feed(x, " 2 odds 101;");
        x.church();
        x.end(20);
        return x;
    }

    private static PassedPenance faultyAndBusy() {
        PassedPenance x = faulty();
        x.confess(1);
        x.confess(0);
        return x;
    }

    private void nothingElse() {
        s.of(FREE, "Nothing is promised beyond the answers and state changes described above, and nothing about an object "
                + "after its 512th call.");
        for (int i = 0; i < QUESTIONS.length; i++) {
            changes("question " + i, 0, WholeBounds::faultyAndBusy, QUESTIONS[i]);
        }
        int fault = 1;
        int tape = 2;
        int church = 4;
        int acts = 8;
        int slots = 16;
        int images = 32;
        Supplier<PassedPenance> still = WholeBounds::faulty;
        Supplier<PassedPenance> busy = WholeBounds::faultyAndBusy;
        changes("feed", tape, busy, x -> x.feed(1, 2, 3, 4, 5));
        changes("end", tape, busy, x -> x.end(19));
        changes("church with a fault", fault, busy, x -> x.church());
        changes("church", fault | tape | church | acts, busy, x -> Check.tell(x, " 1 odds 5;"));
        changes("confess", acts, busy, x -> x.confess(2));
        changes("clear", acts, busy, x -> x.clear(0, 1));
        changes("undo", acts, busy, x -> x.undo());
        changes("anew", acts, busy, x -> x.anew());
        changes("set", church, still, x -> x.set(0, 50));
        changes("move", church, still, x -> x.move(0, 3));
        changes("image", images, busy, x -> x.image(0));
        changes("again", acts, busy, x -> x.again(1));
        changes("again, moved", church | acts, still, x -> x.move(0, 3) + x.again(1) + x.undo() + x.set(2, 77) + x.confess(0));
        changes("row", slots, busy, x -> x.row(3, 1, 2));
        changes("write", slots, busy, x -> x.write(0, 0, 9));
        changes("paste", slots, busy, x -> x.paste(0, 1, 0, 0, 2));
    }
}
