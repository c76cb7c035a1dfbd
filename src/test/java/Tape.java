import java.nio.charset.StandardCharsets;

/** Brings texts to a PondReader by feed() and text(). */
final class Tape {
    private Tape() {
    }

    /** What text() answers; the reader's tape has to be empty. */
    static int tell(PondReader reader, String text) {
        byte[] bytes = text.getBytes(StandardCharsets.ISO_8859_1);
        for (int[] row : rows(bytes)) {
            reader.feed(row[0], row[1], row[2], row[3], row[4]);
        }
        return reader.text(bytes.length);
    }

    static PondReader reader(String text) {
        PondReader reader = new PondReader();
        if (tell(reader, text) < 0) {
            throw new IllegalArgumentException("fault " + reader.fault(0) + " at " + reader.fault(1) + ": " + text);
        }
        return reader;
    }

    /** The numbers of the feed() calls that bring these bytes, blanks behind the last one. */
    static int[][] rows(byte[] bytes) {
        int[][] rows = new int[(bytes.length + 19) / 20][5];
        for (int i = 0; i < rows.length * 20; i++) {
            int b = i < bytes.length ? bytes[i] & 255 : 32;
            rows[i / 20][i % 20 / 4] |= b << 24 - 8 * (i % 4);
        }
        return rows;
    }

    static int letters(String name) {
        int letters = 0;
        for (int i = 0; i < 6; i++) {
            letters = letters * 32 + (i < name.length() ? name.charAt(i) - 96 : 0);
        }
        return letters;
    }
}
