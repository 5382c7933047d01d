import java.lang.management.ManagementFactory;

/** All calls of a run live in one room: an object is small, and its calls make nothing but the three images. */
public final class RoomTest {
    private static final int MOST_BYTES_AN_OBJECT = 80_000;
    private static final int MOST_BYTES_OF_CALLS = 20_000;

    private static final com.sun.management.ThreadMXBean THREADS =
            (com.sun.management.ThreadMXBean) ManagementFactory.getThreadMXBean();

    private static long used() {
        return THREADS.getThreadAllocatedBytes(Thread.currentThread().getId());
    }

    public static void main(String[] args) {
        PassedPenance first = new PassedPenance();
        useAll(first, 3);
        long before = used();
        PassedPenance x = new PassedPenance();
        long made = used();
        int calls = useAll(x, 6);
        long behind = used();
        System.out.println(made - before + " bytes for the object, " + (behind - made) + " by " + calls + " calls");
        if (made - before > MOST_BYTES_AN_OBJECT || behind - made > MOST_BYTES_OF_CALLS) {
            System.out.println("that is too much");
            System.exit(1);
        }
    }

    /** A church of seven, as bytes: told once a round, and every kind of call behind it. */
    private static final int[] TEXT = numbers("church hours 9 boxes 1 odds 50;penance days 1;penance days 3;"
            + "person sin 0 at 0 bears 1;person sin 1 at 0 bears 1;person sin 0 at 3 bears 2;person sin 1 at 0 bears 1;"
            + "person sin 0 at 0 bears 3 minds 0 7;person sin 1 at 4 bears 1;person sin 1 at 0 bears 1;left 0 1;");

    private static int[] numbers(String text) {
        int[] found = new int[(text.length() + 19) / 20 * 5];
        for (int i = 0; i < found.length * 4; i++) {
            found[i / 4] = found[i / 4] << 8 | (i < text.length() ? text.charAt(i) : ' ');
        }
        return found;
    }

    private static int useAll(PassedPenance x, int rounds) {
        int calls = 0;
        for (int round = 0; round < rounds; round++) {
            for (int i = 0; i < TEXT.length; i += 5) {
                x.feed(TEXT[i], TEXT[i + 1], TEXT[i + 2], TEXT[i + 3], TEXT[i + 4]);
            }
            if (x.church() != 11) {
                System.exit(1);
            }
            x.row(0, round % 4, 2);
            x.write(0, 0, 1);
            x.write(0, 1, 0);
            calls += TEXT.length / 5 + 4 + useQuestions(x) + useChanges(x);
        }
        return calls;
    }

    private static int useQuestions(PassedPenance x) {
        x.sins(0);
        x.sinned(0);
        x.best(0);
        x.orders(0, 6);
        x.most(0);
        x.fair(0);
        x.likes(0);
        x.ways(0);
        x.hour(3);
        x.stir();
        x.settles();
        x.settled(0);
        x.swaps();
        x.swap(0);
        x.trades();
        x.deal();
        x.dealt(6);
        x.fits(0, 0);
        x.firsts(0, 0);
        x.may(0, 0, 0);
        x.ask(0, 0);
        x.leaves(0, 0);
        x.mean(0, 0, 0);
        x.choose(0);
        x.pass(0, 0, 5, 1);
        x.takes(0, 0, 5);
        x.drawn(5, 1);
        x.fate(5, 3);
        x.luck(5, 20, 3);
        x.own();
        x.gain();
        x.worst();
        x.kneel(0);
        x.passes(0);
        x.queue(0, 6);
        x.back(6, 2);
        x.last(0);
        x.bears(0);
        return 38;
    }

    private static int useChanges(PassedPenance x) {
        x.set(0, 5);
        x.move(0, 3);
        x.confess(0);
        x.confess(1);
        x.clear(0, 1);
        x.image(0);
        x.image(1);
        x.image(2);
        x.undo();
        x.again(0);
        x.anew();
        x.sum();
        x.paste(0, 0, 0, 1, 1);
        return 13;
    }
}
