/** Promise 2: what is an observation, and what is foreign. */
public final class ObservationTest {
    public static void main(String[] args) {
        messages();
        shortPayloads();
        everyLackingByte();
        tooManyCells();
        tooLargeForAnyFrame();
        foreignChangesNothing();
        cellsBehindTheEnd();
        Due.end();
    }

    private static void messages() {
        for (int message = 995; message <= 1010; message++) {
            EpochSifter sifter = new EpochSifter();
            Due.same("taken", Frames.feed(sifter, Observing.of(1, 2).message(message).frame()), 1);
            boolean right = message >= 1000 && message <= 1003;
            Due.same("observations of " + message, sifter.count(6), right ? 1 : 0);
            Due.same("foreign of " + message, sifter.count(3), right ? 0 : 1);
            Due.same("epoch of " + message, sifter.epoch(1), right ? 2 : -1);
        }
        EpochSifter sifter = new EpochSifter();
        Frames.feed(sifter, Observing.of(1, 2).message(4095).frame());
        Frames.feed(sifter, Observing.of(1, 2).message(0).frame());
        Due.same("message 4095 and 0", sifter.count(3), 2);
    }

    private static void shortPayloads() {
        int[] head = Observing.of(1, 2).payload();
        for (int length = 0; length <= head.length; length++) {
            EpochSifter sifter = new EpochSifter();
            Frames.feed(sifter, Frames.longFrame(Frames.head(head, length)));
            Due.same("long frames", sifter.count(0), 1);
            Due.same("observations with " + length + " bytes", sifter.count(6), length == 10 ? 1 : 0);
            Due.same("foreign with " + length + " bytes", sifter.count(3), length == 10 ? 0 : 1);
        }
    }

    /** 75 bits and 39 for each cell that has a satellite of its own, with one signal, and its mask bit. */
    private static void everyLackingByte() {
        for (int cells = 1; cells <= 15; cells++) {
            Observing observing = Observing.of(1, 2).block(cells, 1);
            int bits = 75 + 40 * cells;
            Due.same("bits", observing.bits().length(), bits);
            int[] payload = observing.payload();
            EpochSifter sifter = new EpochSifter();
            Frames.feed(sifter, Frames.longFrame(payload));
            Due.same("whole", sifter.count(6), 1);
            Due.same("cells", sifter.epoch(2), cells);
            Frames.feed(sifter, Frames.longFrame(Frames.head(payload, payload.length - 1)));
            Due.same("a byte is lacking", sifter.count(3), 1);
            Frames.feed(sifter, Frames.longFrame(Frames.head(payload, payload.length + 1)));
            Due.same("a byte more", sifter.count(6), 2);
        }
        exactFit();
    }

    /** The numbers end with the payload's last bit, or one bit behind it. */
    private static void exactFit() {
        for (int extra = 0; extra < 8; extra++) {
            // Satellites without a signal have 18 bits, satellites with one that is off have 19.
            Observing observing = Observing.of(1, 2);
            for (int satellite = 1; satellite <= extra + 1; satellite++) {
                observing.satellite(satellite, 1, 1);
            }
            observing.cell(1, 1, 7, 9);
            int bits = observing.bits().length();
            int[] payload = observing.payload();
            EpochSifter sifter = new EpochSifter();
            Frames.feed(sifter, Frames.longFrame(payload));
            Due.same("fits with " + bits % 8 + " bits over", sifter.strength(0), 9);
            Frames.feed(sifter, Frames.longFrame(Frames.head(payload, bits / 8)));
            Due.same("fits only when none is over", sifter.count(6), bits % 8 == 0 ? 2 : 1);
        }
    }

    private static void tooManyCells() {
        EpochSifter sifter = new EpochSifter();
        Observing sixteen = Observing.of(1, 2).block(4, 4).satellite(9, 1, 1);
        Frames.feed(sifter, sixteen.frame());
        Due.same("16 cells", sifter.epoch(2), 16);
        Observing seventeen = Observing.of(1, 2).block(4, 4).cell(9, 2, 1, 1);
        Due.same("fits a frame", seventeen.payload().length <= 90 ? 1 : 0, 1);
        Frames.feed(sifter, seventeen.frame());
        Due.same("17 cells", Frames.counts(sifter), "2 0 0 1 1 0 1 0 0 -1");
    }

    private static void tooLargeForAnyFrame() {
        EpochSifter sifter = new EpochSifter();
        StringBuilder bits = new StringBuilder(Observing.of(1, 2).bits().substring(0, 55));
        while (bits.length() < 720) {
            bits.append('1');
        }
        Frames.feed(sifter, Frames.longFrame(Observing.payloadOf(bits.toString())));
        Due.same("all bits on", sifter.count(3), 1);
        Frames.feed(sifter, Frames.longFrame(Observing.payloadOf(bits.substring(0, 80))));
        Due.same("a mask behind the end", sifter.count(3), 2);
    }

    private static void foreignChangesNothing() {
        EpochSifter sifter = new EpochSifter();
        Frames.feed(sifter, Observing.of(1, 2).more().block(1, 2).frame());
        Frames.feed(sifter, Observing.of(3, 4).message(1004).block(1, 2).frame());
        Frames.feed(sifter, Observing.of(3, 4).block(5, 4).frame());
        Frames.feed(sifter, Frames.longFrame());
        Due.same("still gathered", Frames.counts(sifter), "4 0 0 3 0 0 1 0 0 2");
        Frames.feed(sifter, Observing.of(1, 2).frame());
        Due.same("the epoch goes on", sifter.epoch(3), 2);
    }

    /** The check's bits must not be taken for cells, whatever they are. */
    private static void cellsBehindTheEnd() {
        for (int time = 0; time < 64; time++) {
            EpochSifter sifter = new EpochSifter();
            String bits = Observing.of(time, 2).satellite(1, 0, 0).satellite(2, 0, 0).signal(1)
                    .signal(2).signal(3).bits();
            Frames.feed(sifter, Frames.longFrame(Observing.payloadOf(bits.substring(0, 80))));
            Due.same("a mask of 6 bits with 5 of them", sifter.count(3), 1);
        }
    }
}
