import java.nio.charset.StandardCharsets;
import java.util.NoSuchElementException;

/** What the tests share: counting wrong answers, and feeding texts and bytes to a tape. */
final class Checks {
    static final String OFFICE = "machine rem 40; machine oli 20; machine roy 9; phrase ship 10 5; phrase bill 6 8;"
            + "phrase love 4 0; knows rem ship; knows rem bill; knows oli love; knows oli ship; knows roy bill;"
            + "answers bill ship; answers love bill; answers ship love; answers love ship;";

    private int wrong;

    void due(String what, long got, long want) {
        if (got != want) {
            wrong++;
            System.out.println(what + " answered " + got + ", due is " + want);
        }
    }

    void due(String what, boolean got, boolean want) {
        due(what, got ? 1 : 0, want ? 1 : 0);
    }

    void machineThrows(KeyLetters x, int m, int what) {
        boolean thrown = false;
        try {
            x.machine(m, what);
        } catch (NoSuchElementException e) {
            thrown = true;
        }
        due("machine(" + m + ", " + what + ") throws", thrown, true);
    }

    void partThrows(KeyLetters x, int m, int what) {
        boolean thrown = false;
        try {
            x.part(m, what);
        } catch (NoSuchElementException e) {
            thrown = true;
        }
        due("part(" + m + ", " + what + ") throws", thrown, true);
    }

    /** Ends the test's program: with 1 if an answer was wrong. */
    void end(String test) {
        System.out.println(wrong == 0 ? test + ": all answers are as due" : test + ": wrong answers: " + wrong);
        if (wrong != 0) {
            System.exit(1);
        }
    }

    static KeyLetters told(String office) {
        KeyLetters x = new KeyLetters();
        feed(x, office);
        int lines = x.office();
        if (lines < 0) {
            throw new IllegalStateException("no OFFICE: " + office + " answered " + lines);
        }
        return x;
    }

    static void feed(KeyLetters x, String text) {
        feed(x, text.getBytes(StandardCharsets.ISO_8859_1));
    }

    /** Bytes behind what the tape has. */
    static void feed(KeyLetters x, byte... bytes) {
        int before = x.count(3);
        for (int i = 0; i < bytes.length; i += 20) {
            x.feed(number(bytes, i), number(bytes, i + 4), number(bytes, i + 8), number(bytes, i + 12),
                    number(bytes, i + 16));
        }
        x.end(before + bytes.length);
    }

    private static int number(byte[] bytes, int from) {
        int n = 0;
        for (int i = from; i < from + 4; i++) {
            n = n << 8 | (i < bytes.length ? bytes[i] & 255 : 0);
        }
        return n;
    }

    static int office(KeyLetters x, String text) {
        feed(x, text);
        return x.office();
    }

    static int book(KeyLetters x, int lives, String text) {
        feed(x, text);
        return x.book(lives);
    }

    static int sentence(KeyLetters x, String text) {
        feed(x, text);
        return x.sentence();
    }

    static int ways(KeyLetters x, int... phrases) {
        feed(x, bytes(phrases));
        return x.ways();
    }

    static int lacks(KeyLetters x, int... phrases) {
        feed(x, bytes(phrases));
        return x.lacks();
    }

    static int ship(KeyLetters x, int... losses) {
        feed(x, bytes(losses));
        return x.ship();
    }

    static int faint(KeyLetters x, String letters) {
        feed(x, letters);
        return x.faint();
    }

    private static byte[] bytes(int... numbers) {
        byte[] bytes = new byte[numbers.length];
        for (int i = 0; i < numbers.length; i++) {
            bytes[i] = (byte) numbers[i];
        }
        return bytes;
    }

    /** The latest LINE, byte by byte. */
    static String lineText(KeyLetters x) {
        StringBuilder text = new StringBuilder();
        for (int i = 0; x.byteAt(i) != KeyLetters.NONE; i++) {
            text.append((char) x.byteAt(i));
        }
        return text.toString();
    }

    static String spaces(int n) {
        return " ".repeat(n);
    }
}
