import java.nio.ByteBuffer;
import java.nio.charset.StandardCharsets;
import java.util.Arrays;

/** What the tests share: saying what is due, and putting texts on a tape. */
final class Checks {
    static final int NO = -1000000;
    private int asked;
    private int wrong;

    /** Call is told with its promise's number in front. */
    void due(String call, long got, long want) {
        asked++;
        if (got != want) {
            wrong++;
            System.out.println(call + " answered " + got + ", due is " + want);
        }
    }

    void due(String call, boolean got, boolean want) { due(call, got ? 1 : 0, want ? 1 : 0); }

    void end() {
        System.out.println(wrong == 0 ? asked + " answers are as due" : wrong + " of " + asked + " answers are not as due");
        if (wrong != 0) System.exit(1);
    }

    static void feed(SlicedBills x, byte[] bytes) {
        ByteBuffer b = ByteBuffer.wrap(Arrays.copyOf(bytes, (bytes.length + 19) / 20 * 20));
        while (b.hasRemaining()) x.feed(b.getInt(), b.getInt(), b.getInt(), b.getInt(), b.getInt());
    }

    static int feed(SlicedBills x, String text) {
        feed(x, text.getBytes(StandardCharsets.ISO_8859_1));
        return text.length();
    }

    static int book(SlicedBills x, String text) { return x.book(feed(x, text)); }

    static int deeds(SlicedBills x, String text) { return x.deeds(feed(x, text)); }

    static int tried(SlicedBills x, String text, int account) { return x.tried(feed(x, text), account); }

    /** A new biller with this BOOK. */
    static SlicedBills with(String book) {
        SlicedBills x = new SlicedBills();
        if (!book.isEmpty() && book(x, book) < 1) throw new IllegalArgumentException(book);
        return x;
    }

    static String line(SlicedBills x, int entry) {
        StringBuilder line = new StringBuilder();
        for (int i = 0; i < x.line(entry, -1); i++) line.append((char) x.line(entry, i));
        return line.toString();
    }

    /** So many texts "on 0;on 0;.." as one. */
    static String times(int n, String part) { return String.join(";", java.util.Collections.nCopies(n, part)); }
}
