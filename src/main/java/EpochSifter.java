/**
 * Hunts for long and short frames in a stream of bytes, puts the observations in long frames
 * together to epochs and reads the positions in short ones.
 *
 * <p>Every row is made in a constructor and used again: no call makes an object.
 */
public final class EpochSifter {
    private static final int LONG_FRAMES = 0;
    private static final int SHORT_FRAMES = 1;
    private static final int SKIPPED_BYTES = 2;
    private static final int FOREIGN_FRAMES = 3;
    private static final int EPOCHS_DONE = 4;
    private static final int EPOCHS_LOST = 5;
    private static final int OBSERVATIONS = 6;
    private static final int POSITIONS = 7;
    private static final int COUNTERS = 8;
    private static final int BYTES_KEPT = 8;
    private static final int CELLS_GATHERED = 9;

    private final int[] counters;
    private final Stream stream;
    private final Observation observation;
    private final Epoch gathered;
    private final Epoch latest;
    private final Position position;

    public EpochSifter() {
        counters = new int[COUNTERS];
        stream = new Stream();
        observation = new Observation();
        gathered = new Epoch();
        latest = new Epoch();
        position = new Position();
    }

    public int put(int word, int n) {
        if (!isByteCount(n)) {
            return -1;
        }
        for (int i = n - 1; i >= 0; i--) {
            stream.append(byteOf(word, i));
        }
        return deal();
    }

    public int count(int what) {
        if (what >= 0 && what < COUNTERS) {
            return counters[what];
        }
        if (what == BYTES_KEPT) {
            return stream.kept;
        }
        if (what == CELLS_GATHERED && gathered.exists) {
            return gathered.size;
        }
        return -1;
    }

    public int epoch(int what) {
        if (!latest.exists) {
            return -1;
        }
        switch (what) {
            case 0:
                return latest.time;
            case 1:
                return latest.station;
            case 2:
                return latest.size;
            case 3:
                return latest.observations;
            default:
                return -1;
        }
    }

    public int cell(int k) {
        return latest.holds(k) ? latest.names[k] : -1;
    }

    public double range(int k) {
        return latest.holds(k) ? latest.ranges[k] : -1.0;
    }

    public int strength(int k) {
        return latest.holds(k) ? latest.strengths[k] : -1;
    }

    public double mean() {
        return latest.meanRange();
    }

    public int fix() {
        return position.quality;
    }

    public double place(int which) {
        switch (which) {
            case 0:
                return position.latitude * 0.0000001;
            case 1:
                return position.longitude * 0.0000001;
            case 2:
                return position.height * 0.001;
            default:
                return 0.0;
        }
    }

    public int raw(int which) {
        switch (which) {
            case 0:
                return position.time;
            case 1:
                return position.latitude;
            case 2:
                return position.longitude;
            case 3:
                return position.height;
            default:
                return 0;
        }
    }

    public int check(int c, int word, int n) {
        if (!isByteCount(n)) {
            return -1;
        }
        int sum = c & 0xFFFFFF;
        for (int i = n - 1; i >= 0; i--) {
            sum = checkAfter(sum, byteOf(word, i));
        }
        return sum;
    }

    public int flush() {
        int gone = stream.kept;
        stream.drop(gone);
        loseGathered();
        return gone;
    }

    private static boolean isByteCount(int n) {
        return n >= 1 && n <= 4;
    }

    /** Byte i of the word, the lowest one being byte 0. */
    private static int byteOf(int word, int i) {
        return (word >>> (8 * i)) & 0xFF;
    }

    /** A long frame's check c, of 24 bits, carried on over one byte. */
    private static int checkAfter(int c, int octet) {
        int sum = c ^ (octet << 16);
        for (int i = 0; i < 8; i++) {
            sum = 2 * sum;
            if ((sum & 0x1000000) != 0) {
                sum = sum ^ 25578747;
            }
        }
        return sum;
    }

    /** Deals with what is kept until more is needed, and tells how many frames were taken. */
    private int deal() {
        int taken = 0;
        int from = 0;
        // A step that does not end the loop is done with one byte at least.
        for (int step = 0; step < Stream.ROOM; step++) {
            int size = stream.frameAt(from);
            if (size == Stream.UNDECIDED) {
                break;
            }
            if (size == Stream.NO_FRAME) {
                counters[SKIPPED_BYTES]++;
                from++;
                continue;
            }
            if (stream.at(from) == Stream.LONG_MARK) {
                takeLong(from, size);
            } else {
                takeShort(from, size);
            }
            taken++;
            from += size;
        }
        stream.drop(from);
        return taken;
    }

    private void takeLong(int from, int size) {
        counters[LONG_FRAMES]++;
        int length = size - Stream.LONG_HEAD - Stream.LONG_TAIL;
        if (!observation.read(stream, from + Stream.LONG_HEAD, length)) {
            counters[FOREIGN_FRAMES]++;
            return;
        }
        counters[OBSERVATIONS]++;
        if (!gathered.isOf(observation.time, observation.station)) {
            loseGathered();
            gathered.begin(observation.time, observation.station);
        }
        observation.giveTo(gathered);
        if (!observation.more) {
            counters[EPOCHS_DONE]++;
            latest.become(gathered);
            gathered.exists = false;
        }
    }

    private void loseGathered() {
        if (gathered.exists) {
            counters[EPOCHS_LOST]++;
            gathered.exists = false;
        }
    }

    private void takeShort(int from, int size) {
        counters[SHORT_FRAMES]++;
        int length = size - Stream.SHORT_HEAD - Stream.SHORT_TAIL;
        boolean rightSort = stream.at(from + 2) == Position.KIND
                && stream.at(from + 3) == Position.NUMBER
                && length >= Position.LENGTH_LEAST;
        if (rightSort && position.read(stream, from + Stream.SHORT_HEAD)) {
            counters[POSITIONS]++;
        } else {
            counters[FOREIGN_FRAMES]++;
        }
    }

    /** The bytes that are not dealt with yet, in the order in which they came. */
    private static final class Stream {
        static final int ROOM = 140;
        static final int LENGTH_MOST = 90;

        static final int LONG_MARK = 211;
        static final int LONG_HEAD = 3;
        static final int LONG_TAIL = 3;

        static final int SHORT_MARK = 181;
        static final int SHORT_SECOND_MARK = 98;
        static final int SHORT_HEAD = 6;
        static final int SHORT_TAIL = 2;

        /** Answers of frameAt; every other one is the size of a frame that is whole and right. */
        static final int UNDECIDED = 0;
        static final int NO_FRAME = -1;

        final int[] bytes;
        int kept;

        Stream() {
            bytes = new int[ROOM];
            kept = 0;
        }

        void append(int octet) {
            if (kept < ROOM) {
                bytes[kept] = octet;
                kept++;
            }
        }

        int at(int i) {
            return i >= 0 && i < kept ? bytes[i] : 0;
        }

        void drop(int n) {
            if (n <= 0 || n > kept) {
                return;
            }
            kept -= n;
            System.arraycopy(bytes, n, bytes, 0, kept);
        }

        int frameAt(int from) {
            if (from >= kept) {
                return UNDECIDED;
            }
            switch (at(from)) {
                case LONG_MARK:
                    return longFrameAt(from);
                case SHORT_MARK:
                    return shortFrameAt(from);
                default:
                    return NO_FRAME;
            }
        }

        private int longFrameAt(int from) {
            int there = kept - from;
            // Any bit in the number's upper byte is one of the 6 or makes the length 256 or more.
            if (there > 1 && at(from + 1) != 0) {
                return NO_FRAME;
            }
            if (there > 2 && at(from + 2) > LENGTH_MOST) {
                return NO_FRAME;
            }
            int size = LONG_HEAD + at(from + 2) + LONG_TAIL;
            if (there < LONG_HEAD || there < size) {
                return UNDECIDED;
            }
            return longCheckHolds(from, from + size - LONG_TAIL) ? size : NO_FRAME;
        }

        private boolean longCheckHolds(int from, int end) {
            int sum = 0;
            for (int i = from; i < end; i++) {
                sum = checkAfter(sum, at(i));
            }
            return sum == (at(end) << 16 | at(end + 1) << 8 | at(end + 2));
        }

        private int shortFrameAt(int from) {
            int there = kept - from;
            if (there > 1 && at(from + 1) != SHORT_SECOND_MARK) {
                return NO_FRAME;
            }
            // The upper byte can only make the length greater, so the lower one may tell enough.
            if (there > 4 && at(from + 4) > LENGTH_MOST) {
                return NO_FRAME;
            }
            if (there > 5 && at(from + 5) != 0) {
                return NO_FRAME;
            }
            int size = SHORT_HEAD + at(from + 4) + SHORT_TAIL;
            if (there < SHORT_HEAD || there < size) {
                return UNDECIDED;
            }
            return shortCheckHolds(from + 2, from + size - SHORT_TAIL) ? size : NO_FRAME;
        }

        private boolean shortCheckHolds(int from, int end) {
            int x = 0;
            int y = 0;
            for (int i = from; i < end; i++) {
                x = (x + at(i)) & 0xFF;
                y = (y + x) & 0xFF;
            }
            return x == at(end) && y == at(end + 1);
        }

        /** The signed number of four bytes, the lowest first. */
        int signedAt(int i) {
            return at(i) | at(i + 1) << 8 | at(i + 2) << 16 | at(i + 3) << 24;
        }
    }

    /** A long frame's payload, taken apart. */
    private static final class Observation {
        static final int FIRST_MESSAGE = 1000;
        static final int LAST_MESSAGE = 1003;
        static final int SATELLITES = 16;
        static final int SIGNALS = 4;
        static final int CELLS_MOST = 16;

        static final int STATION_AT = 12;
        static final int TIME_AT = 24;
        static final int MORE_AT = 54;
        static final int SATELLITES_AT = 55;
        static final int SIGNALS_AT = 71;
        static final int CELLS_AT = 75;

        static final int WHOLE_BITS = 8;
        static final int PART_BITS = 10;
        static final int FINE_BITS = 15;
        static final int STRENGTH_BITS = 6;

        static final int NO_WHOLE = 255;
        static final int NO_FINE = -16384;

        final int[] payload;
        int system;
        int station;
        int time;
        boolean more;
        int satelliteMask;
        int signalMask;
        int wholesAt;
        int partsAt;
        int finesAt;
        int strengthsAt;

        Observation() {
            payload = new int[Stream.LENGTH_MOST];
        }

        /** Reads all but the cells; false if the payload is no observation. */
        boolean read(Stream stream, int start, int length) {
            fill(stream, start, length);
            int message = number(0, 12);
            if (message < FIRST_MESSAGE || message > LAST_MESSAGE) {
                return false;
            }
            system = message - FIRST_MESSAGE;
            station = number(STATION_AT, 12);
            time = number(TIME_AT, 30);
            more = number(MORE_AT, 1) == 1;
            satelliteMask = number(SATELLITES_AT, SATELLITES);
            signalMask = number(SIGNALS_AT, SIGNALS);
            return layOut(8 * length);
        }

        /** Behind the end of the payload are zeros: nothing of an earlier one stays there. */
        private void fill(Stream stream, int start, int length) {
            for (int i = 0; i < payload.length; i++) {
                payload[i] = i < length ? stream.at(start + i) : 0;
            }
        }

        /** Finds where each row of numbers begins; false if they do not fit or are too many. */
        private boolean layOut(int bitsThere) {
            int satellites = Integer.bitCount(satelliteMask);
            wholesAt = CELLS_AT + satellites * Integer.bitCount(signalMask);
            int cells = 0;
            for (int bit = CELLS_AT; bit < wholesAt; bit++) {
                cells += number(bit, 1);
            }
            partsAt = wholesAt + WHOLE_BITS * satellites;
            finesAt = partsAt + PART_BITS * satellites;
            strengthsAt = finesAt + FINE_BITS * cells;
            return cells <= CELLS_MOST && strengthsAt + STRENGTH_BITS * cells <= bitsThere;
        }

        void giveTo(Epoch epoch) {
            epoch.observations++;
            int row = 0;
            int bit = CELLS_AT;
            int cell = 0;
            for (int satellite = 1; satellite <= SATELLITES; satellite++) {
                if (!isOn(satelliteMask, SATELLITES - satellite)) {
                    continue;
                }
                for (int signal = 1; signal <= SIGNALS; signal++) {
                    if (!isOn(signalMask, SIGNALS - signal)) {
                        continue;
                    }
                    if (number(bit, 1) == 1) {
                        int name = 1000 * system + 10 * satellite + signal;
                        epoch.add(name, rangeOf(row, cell), strengthOf(cell));
                        cell++;
                    }
                    bit++;
                }
                row++;
            }
        }

        private static boolean isOn(int mask, int bit) {
            return (mask >> bit & 1) == 1;
        }

        private double rangeOf(int row, int cell) {
            int whole = number(wholesAt + WHOLE_BITS * row, WHOLE_BITS);
            int part = number(partsAt + PART_BITS * row, PART_BITS);
            int fine = signed(number(finesAt + FINE_BITS * cell, FINE_BITS), FINE_BITS);
            if (whole == NO_WHOLE || fine == NO_FINE) {
                return -1.0;
            }
            double periods = (double) whole + (double) part / 1024.0 + (double) fine / 16777216.0;
            return periods * 299792.458;
        }

        private int strengthOf(int cell) {
            return number(strengthsAt + STRENGTH_BITS * cell, STRENGTH_BITS);
        }

        /** The payload's number of n bits, the highest first, that begins at a bit. */
        private int number(int bit, int n) {
            int value = 0;
            for (int i = bit; i < bit + n; i++) {
                value = value << 1 | bitAt(i);
            }
            return value;
        }

        private int bitAt(int i) {
            int place = i >> 3;
            int octet = place >= 0 && place < payload.length ? payload[place] : 0;
            return octet >> (7 - (i & 7)) & 1;
        }

        private static int signed(int value, int n) {
            int unused = 32 - n;
            return value << unused >> unused;
        }
    }

    /** The cells of one time and station. */
    private static final class Epoch {
        static final int CELLS_MOST = 40;

        final int[] names;
        final double[] ranges;
        final int[] strengths;
        boolean exists;
        int time;
        int station;
        int size;
        int observations;

        Epoch() {
            names = new int[CELLS_MOST];
            ranges = new double[CELLS_MOST];
            strengths = new int[CELLS_MOST];
            exists = false;
        }

        boolean isOf(int otherTime, int otherStation) {
            return exists && time == otherTime && station == otherStation;
        }

        void begin(int newTime, int newStation) {
            exists = true;
            time = newTime;
            station = newStation;
            size = 0;
            observations = 0;
        }

        void add(int name, double distance, int power) {
            if (size < CELLS_MOST) {
                names[size] = name;
                ranges[size] = distance;
                strengths[size] = power;
                size++;
            }
        }

        void become(Epoch other) {
            begin(other.time, other.station);
            observations = other.observations;
            for (int k = 0; k < other.size; k++) {
                add(other.names[k], other.ranges[k], other.strengths[k]);
            }
        }

        boolean holds(int k) {
            return exists && k >= 0 && k < size;
        }

        double meanRange() {
            double sum = 0.0;
            int known = 0;
            for (int k = 0; k < size; k++) {
                if (ranges[k] != -1.0) {
                    sum = sum + ranges[k];
                    known++;
                }
            }
            return known == 0 ? -1.0 : sum / known;
        }
    }

    /** The latest position; all its numbers are 0 while there was none. */
    private static final class Position {
        static final int KIND = 1;
        static final int NUMBER = 7;
        static final int LENGTH_LEAST = 17;
        static final int FIX_LEAST = 2;
        static final int FIX_MOST = 4;

        int quality;
        int time;
        int latitude;
        int longitude;
        int height;

        /** Takes over the payload that begins at start; false, and no change, for another FIX. */
        boolean read(Stream stream, int start) {
            int newQuality = stream.at(start + 4);
            if (newQuality < FIX_LEAST || newQuality > FIX_MOST) {
                return false;
            }
            quality = newQuality;
            time = stream.signedAt(start);
            latitude = stream.signedAt(start + 5);
            longitude = stream.signedAt(start + 9);
            height = stream.signedAt(start + 13);
            return true;
        }
    }
}
