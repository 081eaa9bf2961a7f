import java.util.ArrayList;
import java.util.List;

/** The document once more, in the slowest and plainest form: bits are texts, bytes are lists. */
final class PlainModel {
    private List<Integer> kept = new ArrayList<>();
    private final int[] counts = new int[8];
    private Gathering gathered = null;
    private Gathering latest = null;
    private int[] position = {0, 0, 0, 0, 0};

    private static final class Gathering {
        int time;
        int station;
        int observations = 0;
        final List<double[]> cells = new ArrayList<>();
    }

    int put(int word, int n) {
        if (n < 1 || n > 4) {
            return -1;
        }
        for (int shift = 8 * n - 8; shift >= 0; shift -= 8) {
            kept.add(word >>> shift & 255);
        }
        int before = counts[0] + counts[1];
        while (!kept.isEmpty()) {
            String verdict = kept.get(0) == 211 ? judgeLong() : kept.get(0) == 181 ? judgeShort() : "skip";
            if (verdict.equals("wait")) {
                break;
            }
            if (verdict.equals("skip")) {
                counts[2]++;
                kept.remove(0);
            }
        }
        return counts[0] + counts[1] - before;
    }

    private String judgeLong() {
        int lowest = kept.size() < 2 ? 0 : kept.get(1) << 8;
        lowest += kept.size() < 3 ? 0 : kept.get(2);
        if (lowest >> 10 != 0 || (lowest & 1023) > 90) {
            return "skip";
        }
        if (kept.size() < 3 || kept.size() < 6 + lowest) {
            return "wait";
        }
        int[] body = rowOf(0, 3 + lowest);
        int[] tail = rowOf(3 + lowest, 6 + lowest);
        if (Frames.check(body) != tail[0] * 65536 + tail[1] * 256 + tail[2]) {
            return "skip";
        }
        int[] payload = rowOf(3, 3 + lowest);
        kept = new ArrayList<>(kept.subList(6 + lowest, kept.size()));
        counts[0]++;
        observe(payload);
        return "taken";
    }

    private String judgeShort() {
        int lowest = kept.size() < 5 ? 0 : kept.get(4);
        lowest += kept.size() < 6 ? 0 : kept.get(5) * 256;
        if (kept.size() > 1 && kept.get(1) != 98 || lowest > 90) {
            return "skip";
        }
        if (kept.size() < 6 || kept.size() < 8 + lowest) {
            return "wait";
        }
        int[] payload = rowOf(6, 6 + lowest);
        int[] due = Frames.shortFrame(kept.get(2), kept.get(3), payload);
        if (!java.util.Arrays.equals(due, rowOf(0, 8 + lowest))) {
            return "skip";
        }
        boolean named = kept.get(2) == 1 && kept.get(3) == 7 && lowest >= 17;
        kept = new ArrayList<>(kept.subList(8 + lowest, kept.size()));
        counts[1]++;
        if (named && payload[4] >= 2 && payload[4] <= 4) {
            counts[7]++;
            position = new int[] {payload[4], four(payload, 0), four(payload, 5), four(payload, 9),
                four(payload, 13)};
        } else {
            counts[3]++;
        }
        return "taken";
    }

    private int[] rowOf(int from, int to) {
        return kept.subList(from, to).stream().mapToInt(Integer::intValue).toArray();
    }

    private static int four(int[] row, int at) {
        return row[at] + 256 * (row[at + 1] + 256 * (row[at + 2] + 256 * row[at + 3]));
    }

    private String bits = "";

    private int next(int n) {
        int value = n == 0 ? 0 : Integer.parseInt(bits.substring(0, n), 2);
        bits = bits.substring(n);
        return value;
    }

    private void observe(int[] payload) {
        StringBuilder text = new StringBuilder();
        for (int octet : payload) {
            text.append(Integer.toBinaryString(256 + octet).substring(1));
        }
        bits = text.toString();
        Gathering fresh = new Gathering();
        boolean more;
        try {
            more = readInto(fresh);
        } catch (StringIndexOutOfBoundsException | IllegalStateException tooShortOrOther) {
            counts[3]++;
            return;
        }
        counts[6]++;
        if (gathered != null && (gathered.time != fresh.time || gathered.station != fresh.station)) {
            counts[5]++;
            gathered = null;
        }
        if (gathered == null) {
            gathered = new Gathering();
            gathered.time = fresh.time;
            gathered.station = fresh.station;
        }
        gathered.observations++;
        gathered.cells.addAll(fresh.cells);
        if (!more) {
            counts[4]++;
            latest = gathered;
            gathered = null;
        }
    }

    private boolean readInto(Gathering fresh) {
        int message = next(12);
        if (message / 4 != 250) {
            throw new IllegalStateException();
        }
        fresh.station = next(12);
        fresh.time = next(30);
        boolean more = next(1) == 1;
        List<Integer> satellites = new ArrayList<>();
        for (int i = 1; i <= 16; i++) {
            if (next(1) == 1) {
                satellites.add(i);
            }
        }
        List<Integer> signals = new ArrayList<>();
        for (int i = 1; i <= 4; i++) {
            if (next(1) == 1) {
                signals.add(i);
            }
        }
        for (int satellite : satellites) {
            for (int signal : signals) {
                if (next(1) == 1) {
                    double name = 1000 * (message - 1000) + 10 * satellite + signal;
                    fresh.cells.add(new double[] {name, satellites.indexOf(satellite), 0});
                }
            }
        }
        if (fresh.cells.size() > 16) {
            throw new IllegalStateException();
        }
        readNumbers(fresh, satellites.size());
        return more;
    }

    private void readNumbers(Gathering fresh, int satellites) {
        int[] wholes = new int[satellites];
        int[] parts = new int[satellites];
        for (int i = 0; i < satellites; i++) {
            wholes[i] = next(8);
        }
        for (int i = 0; i < satellites; i++) {
            parts[i] = next(10);
        }
        for (double[] cell : fresh.cells) {
            int fine = next(15);
            fine = fine >= 16384 ? fine - 32768 : fine;
            int i = (int) cell[1];
            cell[1] = (wholes[i] + parts[i] / 1024.0 + fine / 16777216.0) * 299792.458;
            if (wholes[i] == 255 || fine == -16384) {
                cell[1] = -1.0;
            }
        }
        for (double[] cell : fresh.cells) {
            cell[2] = next(6);
        }
    }

    int flush() {
        int gone = kept.size();
        kept.clear();
        if (gathered != null) {
            counts[5]++;
            gathered = null;
        }
        return gone;
    }

    /** All that can be asked, in one text. */
    String state() {
        StringBuilder text = new StringBuilder();
        for (int number : counts) {
            text.append(number).append(' ');
        }
        text.append(kept.size()).append(' ');
        text.append(gathered == null ? -1 : Math.min(40, gathered.cells.size()));
        int size = latest == null ? -1 : Math.min(40, latest.cells.size());
        text.append(" epoch ").append(latest == null ? -1 : latest.time);
        text.append(' ').append(latest == null ? -1 : latest.station).append(' ').append(size);
        text.append(' ').append(latest == null ? -1 : latest.observations);
        double sum = 0.0;
        int known = 0;
        for (int k = 0; k < 42; k++) {
            double[] cell = k < size ? latest.cells.get(k) : new double[] {-1, -1, -1};
            text.append(' ').append((int) cell[0]).append(' ').append(cell[1]);
            text.append(' ').append((int) cell[2]);
            sum += cell[1] == -1.0 ? 0.0 : cell[1];
            known += cell[1] == -1.0 ? 0 : 1;
        }
        text.append(" mean ").append(known == 0 ? -1.0 : sum / known);
        for (int number : position) {
            text.append(' ').append(number);
        }
        text.append(' ').append(position[2] * 0.0000001).append(' ').append(position[3] * 0.0000001);
        return text.append(' ').append(position[4] * 0.001).toString();
    }
}
