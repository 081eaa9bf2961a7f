import java.util.Arrays;

/** Builds frames by the document, apart from the program's own code, and feeds them to it. */
final class Frames {
    private Frames() {}

    static int[] join(int[]... rows) {
        int[] all = new int[0];
        for (int[] row : rows) {
            int size = all.length;
            all = Arrays.copyOf(all, size + row.length);
            System.arraycopy(row, 0, all, size, row.length);
        }
        return all;
    }

    static int[] row(int... bytes) {
        return bytes;
    }

    static int[] with(int[] frame, int at, int octet) {
        int[] changed = frame.clone();
        changed[at] = octet & 255;
        return changed;
    }

    static int[] head(int[] frame, int n) {
        return Arrays.copyOf(frame, n);
    }

    /** The remainder of a long division by the polynomial, over the bits of the whole row. */
    static int check(int[] bytes) {
        boolean[] bits = new boolean[8 * bytes.length + 24];
        for (int i = 0; i < 8 * bytes.length; i++) {
            bits[i] = (bytes[i / 8] >> (7 - i % 8) & 1) == 1;
        }
        String divisor = Integer.toBinaryString(25578747);
        for (int i = 0; i < 8 * bytes.length; i++) {
            for (int j = 0; bits[i] && j <= 24; j++) {
                // The highest bit goes last, since it tells whether to go on.
                int k = 24 - j;
                bits[i + k] ^= divisor.charAt(k) == '1';
            }
        }
        int rest = 0;
        for (int i = 8 * bytes.length; i < bits.length; i++) {
            rest = 2 * rest + (bits[i] ? 1 : 0);
        }
        return rest;
    }

    static int[] longFrame(int... payload) {
        int[] frame = join(row(211, payload.length >> 8, payload.length & 255), payload);
        int sum = check(frame);
        return join(frame, row(sum >> 16, sum >> 8 & 255, sum & 255));
    }

    static int[] shortFrame(int kind, int number, int... payload) {
        int[] middle = join(row(kind, number, payload.length & 255, payload.length >> 8), payload);
        int x = 0;
        int y = 0;
        for (int i = 0; i < middle.length; i++) {
            x += middle[i];
            y += (middle.length - i) * middle[i];
        }
        return join(row(181, 98), middle, row(x % 256, y % 256));
    }

    static int[] position(int time, int fix, int latitude, int longitude, int height) {
        return shortFrame(1, 7, positionPayload(time, fix, latitude, longitude, height));
    }

    static int[] positionPayload(int time, int fix, int latitude, int longitude, int height) {
        return join(lowFirst(time), row(fix), lowFirst(latitude), lowFirst(longitude),
                lowFirst(height));
    }

    private static int[] lowFirst(int number) {
        return row(number & 255, number >> 8 & 255, number >> 16 & 255, number >> 24 & 255);
    }

    /** Puts the bytes four at a time, and tells how many frames were taken. */
    static int feed(EpochSifter sifter, int... bytes) {
        int taken = 0;
        for (int i = 0; i < bytes.length; i += 4) {
            int n = Math.min(4, bytes.length - i);
            int word = 0;
            for (int j = i; j < i + n; j++) {
                word = word << 8 | bytes[j];
            }
            taken += sifter.put(word, n);
        }
        return taken;
    }

    static String counts(EpochSifter sifter) {
        StringBuilder text = new StringBuilder();
        for (int what = 0; what < 10; what++) {
            text.append(what == 0 ? "" : " ").append(sifter.count(what));
        }
        return text.toString();
    }
}
