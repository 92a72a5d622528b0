import java.nio.charset.StandardCharsets;

/** Counts the answers that are not as due, and tells texts to an object. */
final class Due {
    private int wrong;
    private int asked;

    void is(String call, long got, long want) {
        asked++;
        if (got != want) {
            wrong++;
            System.out.println(call + " answered " + got + ", due is " + want);
        }
    }

    void is(String call, boolean got, boolean want) {
        is(call, got ? 1 : 0, want ? 1 : 0);
    }

    void same(String what, String got, String want) {
        asked++;
        if (!got.equals(want)) {
            wrong++;
            System.out.println(what + " shows\n  " + got + "\nand not\n  " + want);
        }
    }

    void end() {
        System.out.println(asked + " answers, " + wrong + " not as due");
        if (wrong != 0) {
            System.exit(1);
        }
    }

    int wrong() {
        return wrong;
    }

    static byte[] bytes(String text) {
        return text.getBytes(StandardCharsets.ISO_8859_1);
    }

    /** The numbers that bring these bytes, filled up with blanks to whole feeds. */
    static int[] numbers(byte[] text) {
        int[] numbers = new int[(text.length + 19) / 20 * 5];
        for (int i = 0; i < numbers.length * 4; i++) {
            int value = i < text.length ? text[i] & 255 : 32;
            numbers[i / 4] |= value << 24 - i % 4 * 8;
        }
        return numbers;
    }

    static void tape(IceTunes x, String text) {
        byte[] bytes = bytes(text);
        int[] n = numbers(bytes);
        x.end(0);
        for (int i = 0; i < n.length; i += 5) {
            x.feed(n[i], n[i + 1], n[i + 2], n[i + 3], n[i + 4]);
        }
        x.end(bytes.length);
    }

    static int tell(IceTunes x, String text) {
        tape(x, text);
        return x.pond();
    }

    static IceTunes told(String text) {
        IceTunes x = new IceTunes();
        if (tell(x, text) < 0) {
            throw new IllegalStateException("FAULT " + x.fault(0) + " at " + x.fault(1) + " of: " + text);
        }
        return x;
    }
}
