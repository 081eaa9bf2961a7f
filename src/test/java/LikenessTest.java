import java.util.Random;

/** Long streams of right, wrong and broken frames: the program answers as the plain model does. */
public final class LikenessTest {
    private static final int RUNS = 4000;
    // With the flushes and the 150 questions at a run's end, a run stays below 512 calls.
    private static final int PUTS_MOST = 340;
    private static int epochs = 0;
    private static int positions = 0;
    private static int lost = 0;
    private static int fullest = 0;

    public static void main(String[] args) {
        Random random = new Random(1);
        for (int number = 0; number < RUNS; number++) {
            run(random, number);
        }
        // The streams must hold enough of everything, or the likeness would tell nothing.
        Due.same("epochs were done", epochs > RUNS / 4 ? 1 : 0, 1);
        Due.same("epochs were lost", lost > RUNS / 4 ? 1 : 0, 1);
        Due.same("positions were read", positions > RUNS / 4 ? 1 : 0, 1);
        Due.same("an epoch was full", fullest, 40);
        Due.end();
    }

    private static void run(Random random, int number) {
        EpochSifter sifter = new EpochSifter();
        PlainModel model = new PlainModel();
        int[] ahead = new int[0];
        int at = 0;
        int puts = 1 + random.nextInt(PUTS_MOST);
        for (int call = 0; call < puts; call++) {
            if (at + 4 > ahead.length) {
                ahead = Frames.join(java.util.Arrays.copyOfRange(ahead, at, ahead.length), piece(random));
                at = 0;
            }
            int n = Math.min(ahead.length - at, 1 + random.nextInt(4));
            int word = random.nextInt();
            for (int i = 0; i < n; i++) {
                word = word << 8 | ahead[at + i];
            }
            at += n;
            String name = "run " + number + ", call " + call;
            Due.same(name, sifter.put(word, n), model.put(word, n));
            if (random.nextInt(150) == 0) {
                Due.same(name + ", flush", sifter.flush(), model.flush());
            }
        }
        Due.same("run " + number + ", state", Asked.state(sifter), model.state());
        fullest = Math.max(fullest, sifter.epoch(2));
        epochs += sifter.count(4);
        lost += sifter.count(5);
        positions += sifter.count(7);
    }

    private static int[] piece(Random random) {
        int[] frame = frame(random);
        switch (random.nextInt(8)) {
            case 0:
                return Frames.head(frame, random.nextInt(frame.length));
            case 1:
                return Frames.with(frame, random.nextInt(frame.length), random.nextInt(256));
            case 2:
                return Frames.join(junk(random), frame);
            default:
                return frame;
        }
    }

    private static int[] frame(Random random) {
        switch (random.nextInt(9)) {
            case 0:
                return Frames.shortFrame(random.nextInt(3), 6 + random.nextInt(3), junk(random));
            case 1:
                return Frames.longFrame(junk(random));
            case 2:
            case 3:
                return Frames.position(random.nextInt(), random.nextInt(7), random.nextInt(),
                        random.nextInt(), random.nextInt());
            case 4:
                return cut(random, observation(random));
            default:
                return Frames.longFrame(observation(random));
        }
    }

    /** Frames inside a frame, and payloads that are a little shorter or longer than they should be. */
    private static int[] cut(Random random, int[] payload) {
        if (random.nextBoolean()) {
            return Frames.longFrame(Frames.head(payload, Math.max(0, payload.length + random.nextInt(5) - 2)));
        }
        return Frames.join(Frames.row(211, 0, random.nextInt(91)), Frames.longFrame(payload));
    }

    private static int[] junk(Random random) {
        int[] marks = {211, 0, 181, 98, 0, 7, 1, 17, 90, 91, 62, 128};
        int[] row = new int[random.nextInt(30)];
        for (int i = 0; i < row.length; i++) {
            row[i] = random.nextInt(3) == 0 ? random.nextInt(256) : marks[random.nextInt(marks.length)];
        }
        return row;
    }

    private static int[] observation(Random random) {
        Observing observing = Observing.of(100 + random.nextInt(8) / 7, random.nextInt(8) / 7);
        observing.message(random.nextInt(12) == 0 ? 999 + random.nextInt(6) : 1000 + random.nextInt(4));
        if (random.nextInt(4) != 0) {
            observing.more();
        }
        int most = 1 + random.nextInt(6);
        for (int satellite = 1; satellite <= 16 && most > 0; satellite++) {
            if (random.nextInt(3) == 0) {
                continue;
            }
            most--;
            observing.satellite(satellite, random.nextInt(8) == 0 ? 255 : random.nextInt(256),
                    random.nextInt(1024));
            for (int signal = 1; signal <= 4; signal++) {
                if (random.nextInt(4) != 0) {
                    observing.cell(satellite, signal,
                            random.nextInt(8) == 0 ? -16384 : random.nextInt(32768) - 16384,
                            random.nextInt(64));
                }
            }
        }
        return observing.payload();
    }
}
