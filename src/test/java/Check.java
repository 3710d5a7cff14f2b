import java.nio.charset.StandardCharsets;
import java.util.NoSuchElementException;

/** Counts what is as due; tests print what is not and end with exit code 1 if there was any. */
final class Check {
    private static int checks;
    private static int wrong;
    private static String sentence = "";

    private Check() {
    }

    /** The sentence of the document that the checks behind this call are about. */
    static void about(String words) {
        sentence = "[" + words + "] ";
    }

    static void due(String what, long got, long want) {
        dueText(what, Long.toString(got), Long.toString(want));
    }

    static void dueText(String what, String got, String want) {
        checks++;
        if (!got.equals(want)) {
            wrong++;
            System.out.println(sentence + what + " answered " + got + ", due is " + want);
        }
    }

    static void due(String what, boolean got, boolean want) {
        due(what, got ? 1 : 0, want ? 1 : 0);
    }

    static void dueThrown(String what, WardrobeRow row, int r, int which) {
        boolean thrown = false;
        try {
            row.room(r, which);
        } catch (NoSuchElementException e) {
            thrown = true;
        }
        due(what + " throws", thrown, true);
    }

    /** Puts bytes onto an empty tape. */
    static void tape(WardrobeRow row, byte[] bytes) {
        row.end(0);
        for (int i = 0; i < bytes.length; i += 20) {
            int[] five = new int[5];
            for (int j = 0; j < 20; j++) {
                int b = i + j < bytes.length ? bytes[i + j] & 255 : 0;
                five[j / 4] = five[j / 4] << 8 | b;
            }
            row.feed(five[0], five[1], five[2], five[3], five[4]);
        }
        if (!row.end(bytes.length)) {
            throw new IllegalStateException("the tape does not take " + bytes.length + " bytes");
        }
    }

    static void tape(WardrobeRow row, String text) {
        tape(row, text.getBytes(StandardCharsets.ISO_8859_1));
    }

    static void tape(WardrobeRow row, int... numbers) {
        byte[] bytes = new byte[numbers.length];
        for (int i = 0; i < numbers.length; i++) {
            bytes[i] = (byte) numbers[i];
        }
        tape(row, bytes);
    }

    /** A new row with a TERRACE that must have no FAULT. */
    static WardrobeRow row(String text) {
        WardrobeRow row = new WardrobeRow();
        tape(row, text);
        int lines = row.terrace();
        if (lines < 0) {
            throw new IllegalStateException("a FAULT at " + (-1 - lines) + " in " + text);
        }
        return row;
    }

    /** All that the face tells of what is so, so that a test can say that all of it stays. */
    static String seen(WardrobeRow row) {
        StringBuilder all = new StringBuilder();
        for (int what = 0; what < 6; what++) {
            all.append(what < 5 ? row.count(what) : 0).append(' ').append(row.now(what)).append(' ');
        }
        for (int r = 0; r < row.count(2); r++) {
            for (int what = 0; what < 5; what++) {
                all.append(row.room(r, what)).append(' ');
            }
        }
        for (int p = 0; p < row.count(1); p++) {
            for (int what = 0; what < 6; what++) {
                all.append(row.owner(p, what)).append(' ');
            }
        }
        for (int k = 0; k < row.count(3); k++) {
            for (int what = 0; what < 4; what++) {
                all.append(row.passage(k, what)).append(' ');
            }
        }
        for (int k = -1; k < row.said(-1); k++) {
            all.append(row.said(k)).append(' ');
        }
        return all.toString();
    }

    static String blanks(String text, int bytes) {
        return text + " ".repeat(bytes - text.length());
    }

    /** Many lines of a sort, the names being the letters from a on. */
    static String lines(String word, int many, String tail) {
        StringBuilder text = new StringBuilder();
        for (int i = 0; i < many; i++) {
            text.append(word).append(' ').append((char) ('a' + i)).append(tail).append(';');
        }
        return text.toString();
    }

    static int terrace(WardrobeRow row, String text) {
        tape(row, text);
        return row.terrace();
    }

    static int book(WardrobeRow row, String text, int lives) {
        tape(row, text);
        return row.book(lives);
    }

    static int sentence(WardrobeRow row, String text) {
        tape(row, text);
        return row.sentence();
    }

    static void close() {
        System.out.println(checks + " checks, " + wrong + " wrong");
        if (wrong != 0) {
            System.exit(1);
        }
    }
}
