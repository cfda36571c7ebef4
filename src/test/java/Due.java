import java.util.ArrayList;
import java.util.List;

/** Compares answers with those that are due, and ends the test's program with what came of it. */
final class Due {
    static final int BAD = -1000000001, NO = -1000000002, FULL = -1000000003, NONE = -1000000005;
    static final int NOTHING = -1000000011, KIND = -1000000012, INDEX = -1000000013, SIZE = -1000000014;

    private final List<String> wrong = new ArrayList<>();
    private int asked;

    void is(String call, long got, long want) {
        asked++;
        if (got != want) {
            wrong.add(call + " answered " + got + ", due is " + want);
        }
    }

    void holds(String what, boolean yes) {
        asked++;
        if (!yes) {
            wrong.add(what);
        }
    }

    void end() {
        for (String line : wrong) {
            System.out.println(line);
        }
        System.out.println(asked + " answers, " + wrong.size() + " not as due");
        if (!wrong.isEmpty()) {
            System.exit(1);
        }
    }

    /** Feeds a text in twelves of bytes, trims what stands behind it, and has it read. */
    static int read(ScentCloth x, String text) {
        tape(x, text);
        return x.text();
    }

    /** The tape must be empty ahead of it. */
    static void tape(ScentCloth x, String text) {
        StringBuilder padded = new StringBuilder(text);
        while (padded.length() % 12 != 0) {
            padded.append('~');
        }
        for (int i = 0; i < padded.length(); i += 12) {
            x.feed(four(padded, i), four(padded, i + 4), four(padded, i + 8));
        }
        x.trim(text.length());
    }

    private static int four(CharSequence bytes, int from) {
        int v = 0;
        for (int i = from; i < from + 4; i++) {
            v = v << 8 | bytes.charAt(i) & 255;
        }
        return v;
    }
}
