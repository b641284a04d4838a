import java.nio.ByteBuffer;
import java.nio.charset.StandardCharsets;

/** Puts texts on a desk's tape. */
final class Texts {
    private Texts() {
    }

    /** The tape holds this text alone. */
    static void put(ScansionDesk desk, String text) {
        byte[] bytes = text.getBytes(StandardCharsets.ISO_8859_1);
        desk.end(0);
        for (int from = 0; from < bytes.length; from += 20) {
            ByteBuffer twenty = ByteBuffer.allocate(20);
            twenty.put(bytes, from, Math.min(20, bytes.length - from));
            twenty.rewind();
            desk.feed(twenty.getInt(), twenty.getInt(), twenty.getInt(), twenty.getInt(), twenty.getInt());
        }
        desk.end(bytes.length);
    }

    static int metre(ScansionDesk desk, String text) {
        put(desk, text);
        return desk.metre();
    }

    static int law(ScansionDesk desk, String text) {
        put(desk, text);
        return desk.law();
    }

    static int orders(ScansionDesk desk, String text) {
        put(desk, text);
        return desk.orders();
    }

    static String repeat(String text, String between, int times) {
        return String.join(between, java.util.Collections.nCopies(times, text));
    }
}
