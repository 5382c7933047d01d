import java.nio.charset.StandardCharsets;

/** What the tests share: telling texts, and counting answers that are not due. */
final class Check {
    private int wrong = 0;
    private int asked = 0;

    void due(String call, long got, long want) {
        asked++;
        if (got != want) {
            wrong++;
            System.out.println(call + " answered " + got + ", due is " + want);
        }
    }

    /** The answers of a row of calls. */
    void dueAll(String calls, long[] got, long... want) {
        due(calls + " how many", got.length, want.length);
        for (int i = 0; i < Math.min(got.length, want.length); i++) {
            due(calls + " number " + i, got[i], want[i]);
        }
    }

    void end() {
        System.out.println(asked + " answers looked at, " + wrong + " not as due");
        if (wrong != 0) {
            System.exit(1);
        }
    }

    /** Feeds a text, with blanks behind it cut off. */
    static void feed(PassedPenance x, String text) {
        byte[] bytes = text.getBytes(StandardCharsets.ISO_8859_1);
        int before = x.count(7);
        for (int i = 0; i < bytes.length; i += 20) {
            int[] n = new int[5];
            for (int j = 0; j < 20; j++) {
                int b = i + j < bytes.length ? bytes[i + j] & 255 : 32;
                n[j / 4] = n[j / 4] << 8 | b;
            }
            x.feed(n[0], n[1], n[2], n[3], n[4]);
        }
        x.end(before + bytes.length);
    }

    static int tell(PassedPenance x, String text) {
        feed(x, text);
        return x.church();
    }

    static PassedPenance told(String text) {
        PassedPenance x = new PassedPenance();
        tell(x, text);
        return x;
    }

    static void lay(PassedPenance x, int slot, long... numbers) {
        x.row(slot, 1, numbers.length);
        for (int i = 0; i < numbers.length; i++) {
            x.write(slot, i, numbers[i]);
        }
    }

    /** Goes the way of the settling by the calls themselves, at most so many moves: how many there were. */
    static int movesBy(PassedPenance x, int most) {
        int moves = 0;
        while (moves < most && x.stir() != 0) {
            int mover = Integer.numberOfTrailingZeros(x.stir());
            x.move(mover, x.hour(mover));
            moves++;
        }
        return moves;
    }
}
