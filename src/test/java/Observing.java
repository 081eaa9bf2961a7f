import java.util.ArrayList;
import java.util.List;

/** An observation that is written out field by field: each cell has its satellite and signal. */
final class Observing {
    private int message = 1000;
    private int station = 5;
    private int time = 100;
    private int more = 0;
    private int satellites = 0;
    private int signals = 0;
    private final int[] wholes = new int[17];
    private final int[] parts = new int[17];
    private final List<int[]> cells = new ArrayList<>();

    static Observing of(int time, int station) {
        Observing made = new Observing();
        made.time = time;
        made.station = station;
        return made;
    }

    Observing message(int number) {
        message = number;
        return this;
    }

    Observing more() {
        more = 1;
        return this;
    }

    Observing satellite(int number, int whole, int part) {
        satellites |= 1 << (16 - number);
        wholes[number] = whole;
        parts[number] = part;
        return this;
    }

    Observing signal(int number) {
        signals |= 1 << (4 - number);
        return this;
    }

    /** Cells are to be given by rising satellites and signals. */
    Observing cell(int satellite, int signal, int fine, int strength) {
        satellites |= 1 << (16 - satellite);
        signals |= 1 << (4 - signal);
        cells.add(new int[] {satellite, signal, fine, strength});
        return this;
    }

    /** The cells of so many satellites, from 1, with so many signals each. */
    Observing block(int satelliteCount, int signalCount) {
        for (int satellite = 1; satellite <= satelliteCount; satellite++) {
            satellite(satellite, satellite, 0);
            for (int signal = 1; signal <= signalCount; signal++) {
                cell(satellite, signal, 0, satellite + signal);
            }
        }
        return this;
    }

    String bits() {
        StringBuilder text = new StringBuilder();
        text.append(number(message, 12)).append(number(station, 12)).append(number(time, 30));
        text.append(number(more, 1)).append(number(satellites, 16)).append(number(signals, 4));
        for (int satellite = 1; satellite <= 16; satellite++) {
            for (int signal = 1; signal <= 4 && isOn(satellite); signal++) {
                if ((signals >> (4 - signal) & 1) == 1) {
                    text.append(has(satellite, signal) ? '1' : '0');
                }
            }
        }
        for (int satellite = 1; satellite <= 16; satellite++) {
            text.append(isOn(satellite) ? number(wholes[satellite], 8) : "");
        }
        for (int satellite = 1; satellite <= 16; satellite++) {
            text.append(isOn(satellite) ? number(parts[satellite], 10) : "");
        }
        for (int[] cell : cells) {
            text.append(number(cell[2], 15));
        }
        for (int[] cell : cells) {
            text.append(number(cell[3], 6));
        }
        return text.toString();
    }

    int[] payload() {
        return payloadOf(bits());
    }

    int[] frame() {
        return Frames.longFrame(payload());
    }

    static int[] payloadOf(String bits) {
        int[] bytes = new int[(bits.length() + 7) / 8];
        for (int i = 0; i < bits.length(); i++) {
            bytes[i / 8] |= (bits.charAt(i) - '0') << (7 - i % 8);
        }
        return bytes;
    }

    private boolean isOn(int satellite) {
        return (satellites >> (16 - satellite) & 1) == 1;
    }

    private boolean has(int satellite, int signal) {
        for (int[] cell : cells) {
            if (cell[0] == satellite && cell[1] == signal) {
                return true;
            }
        }
        return false;
    }

    private static String number(int value, int n) {
        StringBuilder text = new StringBuilder();
        for (int bit = n - 1; bit >= 0; bit--) {
            text.append(value >> bit & 1);
        }
        return text.toString();
    }
}
