/** "Terms", a long frame's payload: the ends of each number, and what is an observation. */
public final class ObservationBoundsTest {
    private static final String FOREIGN = "1 0 0 1 0 0 0 0 0 -1";
    private static final String DONE = "1 0 0 0 1 0 1 0 0 -1";

    public static void main(String[] args) {
        bytesByHand();
        messages();
        stationBits();
        timeBits();
        moreBit();
        noSatelliteOrSignal();
        allSatellitesAndSignals();
        orderOfCells();
        satellitesWithoutCells();
        signedFine();
        strengths();
        tooFewBits();
        endWithinTheCells();
        largestPayload();
        bitsThatAreOver();
        sixteenCells();
        foreignOnes();
        Due.end();
    }

    private static String countsOf(int[] payload) {
        EpochSifter sifter = new EpochSifter();
        Due.same("taken", Frames.feed(sifter, Frames.longFrame(payload)), 1);
        return Frames.counts(sifter);
    }

    private static EpochSifter fedWith(Observing observing) {
        EpochSifter sifter = new EpochSifter();
        Frames.feed(sifter, observing.frame());
        return sifter;
    }

    private static void bytesByHand() {
        Due.sentence("a row of bits, the highest one of the first byte first");
        EpochSifter sifter = new EpochSifter();
        // 1001, station 0x123, time 5, no more; satellite 16, signal 4, its cell; 1, 512, -1, 62.
        String bits = "001111101001" + "000100100011" + "000000000000000000000000000101" + "0"
                + "0000000000000001" + "0001" + "1" + "00000001" + "1000000000" + "111111111111111" + "111110";
        Frames.feed(sifter, Frames.longFrame(Observing.payloadOf(bits)));
        Due.same("epoch", Asked.epoch(sifter), "5 291 1 1");
        Due.same("cell", sifter.cell(0), 1164);
        Due.same("range", sifter.range(0), (1.5 - 1 / 16777216.0) * 299792.458);
        Due.same("strength", sifter.strength(0), 62);
    }

    private static void messages() {
        Due.sentence("It is an OBSERVATION if MESSAGE is 1000 .. 1003 (SYSTEM 0 .. 3)");
        int[] foreign = {0, 1, 999, 1004, 1024, 2024, 3048, 3051, 4095};
        for (int message : foreign) {
            Due.same("message " + message, countsOf(Observing.of(1, 2).message(message).payload()), FOREIGN);
        }
        for (int system = 0; system <= 3; system++) {
            Observing observing = Observing.of(1, 2).message(1000 + system).cell(1, 1, 0, 0);
            Due.same("message " + (1000 + system), countsOf(observing.payload()), DONE);
            Due.same("system " + system, fedWith(observing).cell(0), 1000 * system + 11);
        }
    }

    private static void stationBits() {
        Due.sentence("STATION 12");
        for (int bit = 0; bit < 12; bit++) {
            Due.same("bit " + bit, Asked.epoch(fedWith(Observing.of(0, 1 << bit))), "0 " + (1 << bit) + " 0 1");
        }
        Due.same("least", fedWith(Observing.of(0x3FFFFFFF, 0)).epoch(1), 0);
        Due.same("greatest", fedWith(Observing.of(0, 4095)).epoch(1), 4095);
    }

    private static void timeBits() {
        Due.sentence("TIME 30");
        for (int bit = 0; bit < 30; bit++) {
            Due.same("bit " + bit, Asked.epoch(fedWith(Observing.of(1 << bit, 0))), (1 << bit) + " 0 0 1");
        }
        Due.same("least", fedWith(Observing.of(0, 4095)).epoch(0), 0);
        Due.same("greatest", fedWith(Observing.of(0x3FFFFFFF, 0)).epoch(0), 1073741823);
    }

    private static void moreBit() {
        Due.sentence("MORE 1");
        EpochSifter more = fedWith(Observing.of(0, 0).more());
        Due.same("1, all about it 0", Frames.counts(more), "1 0 0 0 0 0 1 0 0 0");
        EpochSifter none = fedWith(Observing.of(0x3FFFFFFF, 4095).satellite(1, 0, 0));
        Due.same("0, all about it 1", Frames.counts(none), DONE);
    }

    private static void noSatelliteOrSignal() {
        Due.sentence("CELLS as many as satellites times signals that are on");
        Due.same("neither", Asked.epoch(fedWith(Observing.of(7, 8))), "7 8 0 1");
        Observing signals = Observing.of(7, 8).signal(1).signal(2).signal(3).signal(4);
        Due.same("signals alone", signals.bits().length(), 75);
        Due.same("signals alone", Asked.epoch(fedWith(signals)), "7 8 0 1");
        Observing satellites = Observing.of(7, 8).satellite(1, 255, 1023).satellite(16, 255, 1023);
        Due.same("satellites alone", satellites.bits().length(), 75 + 2 * 18);
        Due.same("satellites alone", Asked.epoch(fedWith(satellites)), "7 8 0 1");
        Observing off = Observing.of(7, 8).satellite(1, 255, 1023).signal(4);
        Due.same("a cell that is off", off.bits().length(), 75 + 1 + 18);
        Due.same("a cell that is off", Asked.epoch(fedWith(off)), "7 8 0 1");
    }

    /** All 16 satellites with all 4 signals: the mask of cells has 64 bits. */
    private static Observing allOn() {
        Observing observing = Observing.of(7, 8).signal(1).signal(2).signal(3).signal(4);
        for (int satellite = 1; satellite <= 16; satellite++) {
            observing.satellite(satellite, satellite, 64 * satellite - 1);
        }
        return observing;
    }

    private static void allSatellitesAndSignals() {
        Due.sentence("SATELLITES 16 (a mask: the first bit is satellite 1, the last one 16), SIGNALS 4");
        EpochSifter sifter = fedWith(allOn().cell(1, 1, 1, 1).cell(8, 4, 2, 2).cell(16, 4, 3, 63));
        Due.same("the first cell of 64", Asked.cell(sifter, 0), "11 " + reckoned(1, 63, 1) + " 1");
        Due.same("one between", Asked.cell(sifter, 1), "84 " + reckoned(8, 511, 2) + " 2");
        Due.same("the last cell of 64", Asked.cell(sifter, 2), "164 " + reckoned(16, 1023, 3) + " 63");
        Due.same("no other", Asked.cell(sifter, 3), "-1 -1.0 -1");
        for (int satellite = 1; satellite <= 16; satellite++) {
            for (int signal = 1; signal <= 4; signal++) {
                EpochSifter alone = fedWith(Observing.of(1, 2).cell(satellite, signal, 0, 0));
                Due.same("alone", alone.cell(0), 10 * satellite + signal);
            }
        }
    }

    private static void orderOfCells() {
        Due.sentence("for each satellite, by rising numbers, for each signal, a bit");
        EpochSifter sifter = fedWith(Observing.of(1, 2).satellite(2, 20, 0).satellite(9, 90, 0)
                .cell(2, 2, 0, 1).cell(2, 4, 0, 2).cell(9, 1, 0, 3).cell(9, 4, 0, 4));
        int[] names = {22, 24, 91, 94, -1};
        int[] strengths = {1, 2, 3, 4, -1};
        for (int k = 0; k < names.length; k++) {
            Due.same("cell(" + k + ")", sifter.cell(k), names[k]);
            Due.same("strength(" + k + ")", sifter.strength(k), strengths[k]);
        }
        Due.same("range(1)", sifter.range(1), 20 * 299792.458);
        Due.same("range(2)", sifter.range(2), 90 * 299792.458);
    }

    private static void satellitesWithoutCells() {
        Due.sentence("for each satellite that is on WHOLE 8 bits; for each PART 10 bits");
        EpochSifter sifter = fedWith(Observing.of(1, 2).satellite(1, 255, 1023).cell(2, 1, 5, 6)
                .satellite(2, 70, 512).satellite(3, 255, 1023));
        Due.same("the satellite between", Asked.cell(sifter, 0), "21 " + reckoned(70, 512, 5) + " 6");
        EpochSifter ends = fedWith(Observing.of(1, 2).satellite(1, 0, 1023).satellite(2, 254, 0)
                .cell(1, 1, 0, 0).cell(2, 1, 0, 0));
        Due.same("the least WHOLE, the greatest PART", ends.range(0), reckoned(0, 1023, 0));
        Due.same("the greatest WHOLE, the least PART", ends.range(1), reckoned(254, 0, 0));
    }

    private static void signedFine() {
        Due.sentence("for each cell that is on FINE 15 bits, signed");
        int[] fines = {-16383, -1, 0, 1, 16383};
        for (int fine : fines) {
            EpochSifter sifter = fedWith(Observing.of(1, 2).satellite(1, 1, 0).cell(1, 1, fine, 0));
            Due.same("fine " + fine, sifter.range(0), reckoned(1, 0, fine));
        }
        EpochSifter least = fedWith(Observing.of(1, 2).satellite(1, 1, 0).cell(1, 1, -16384, 0));
        Due.same("fine -16384", least.range(0), -1.0);
    }

    private static void strengths() {
        Due.sentence("for each STRENGTH 6 bits");
        for (int strength = 0; strength < 64; strength++) {
            EpochSifter sifter = fedWith(Observing.of(1, 2).cell(1, 1, 0, 63 - strength)
                    .cell(1, 2, 0, strength).cell(1, 3, 0, 63 - strength));
            Due.same("strength " + strength, sifter.strength(1), strength);
        }
    }

    private static void tooFewBits() {
        Due.sentence("and the payload has at least these bits");
        int[] head = {0x3E, 0x80, 0, 0, 0, 0, 0, 0, 0, 0};
        for (int length = 0; length <= 9; length++) {
            Due.same("72 bits and fewer: " + length, countsOf(Frames.head(head, length)), FOREIGN);
        }
        Due.same("75 bits of 80", countsOf(head), DONE);
        for (int satellites = 1; satellites <= 8; satellites++) {
            Observing observing = Observing.of(1, 2).cell(1, 1, 7, 9);
            for (int satellite = 1; satellite <= satellites; satellite++) {
                observing.satellite(satellite, 1, 1);
            }
            int[] payload = observing.payload();
            int bits = 75 + 19 * satellites + 21;
            Due.same("all of " + bits + " bits", countsOf(payload), DONE);
            // The eight sizes leave each rest by 8, so that one of them lacks a single bit.
            Due.same("less than " + bits + " bits", countsOf(Frames.head(payload, (bits - 1) / 8)), FOREIGN);
        }
    }

    private static void endWithinTheCells() {
        Due.sentence("the payload has at least these bits: CELLS too");
        Observing observing = Observing.of(1, 2).signal(1).signal(2).signal(3).satellite(1, 0, 0)
                .satellite(2, 0, 0);
        Due.same("bits up to the cells' end", observing.bits().length(), 75 + 6 + 2 * 18);
        Due.same("five of six bits", countsOf(Frames.head(observing.payload(), 10)), FOREIGN);
        Due.same("all six and no WHOLE", countsOf(Frames.head(observing.payload(), 11)), FOREIGN);
        Due.same("all but the last byte", countsOf(Frames.head(observing.payload(), 14)), FOREIGN);
        Due.same("all", countsOf(observing.payload()), DONE);
        int[] most = allOn().payload();
        for (int length = 10; length <= 17; length++) {
            Due.same("64 bits for cells, " + length + " bytes", countsOf(Frames.head(most, length)), FOREIGN);
        }
    }

    private static void largestPayload() {
        Due.sentence("the PAYLOAD, of that many bytes: 0 .. 90");
        Observing filling = Observing.of(7, 8).signal(1).signal(2).signal(3).signal(4);
        for (int satellite = 1; satellite <= 15; satellite++) {
            filling.cell(satellite, 1 + satellite % 4, 0, 60);
        }
        Due.same("bits", filling.bits().length(), 720);
        Due.same("just 90 bytes", countsOf(filling.payload()), DONE);
        Due.same("the last bits", fedWith(filling).strength(14), 60);
        Due.same("89 of them", countsOf(Frames.head(filling.payload(), 89)), FOREIGN);
        Observing over = allOn();
        for (int satellite = 1; satellite <= 14; satellite++) {
            over.cell(satellite, 2, 0, 0);
        }
        Due.same("bits", over.bits().length(), 721);
        Due.same("a bit more than 90 bytes", countsOf(Frames.head(over.payload(), 90)), FOREIGN);
    }

    private static void bitsThatAreOver() {
        Due.sentence("at least these bits: what is behind them is not looked at");
        Observing observing = Observing.of(7, 8).satellite(3, 70, 9).cell(3, 3, 4, 5);
        String due = Asked.state(fedWith(observing));
        StringBuilder bits = new StringBuilder(observing.bits());
        while (bits.length() < 720) {
            bits.append('1');
            if (bits.length() % 8 == 0) {
                EpochSifter sifter = new EpochSifter();
                Frames.feed(sifter, Frames.longFrame(Observing.payloadOf(bits.toString())));
                Due.same("ones behind, " + bits.length() + " bits in all", Asked.state(sifter), due);
            }
        }
    }

    private static void sixteenCells() {
        Due.sentence("and at most 16 cells are on");
        for (int cells = 0; cells <= 20; cells++) {
            Observing observing = Observing.of(1, 2).signal(1).signal(2).signal(3).signal(4);
            for (int i = 0; i < 20; i++) {
                observing.satellite(1 + i / 4, 1, 1);
                if (i < cells) {
                    observing.cell(1 + i / 4, 1 + i % 4, 0, 0);
                }
            }
            Due.same(cells + " cells", countsOf(observing.payload()), cells <= 16 ? DONE : FOREIGN);
            Due.same("kept", fedWith(observing).epoch(2), cells <= 16 ? cells : -1);
        }
    }

    private static void foreignOnes() {
        Due.sentence("else it is FOREIGN, and nothing else happens");
        int[][] payloads = {
            {}, {0x3E}, Observing.of(9, 9).message(999).block(1, 1).payload(),
            Observing.of(9, 9).message(1004).block(1, 1).payload(),
            Observing.of(9, 9).block(5, 4).payload(),
            Frames.head(Observing.of(9, 9).block(2, 2).payload(), 20),
        };
        for (int[] payload : payloads) {
            EpochSifter sifter = new EpochSifter();
            Frames.feed(sifter, Observing.of(1, 2).block(2, 3).frame());
            Frames.feed(sifter, Frames.position(1, 2, 3, 4, 5));
            Frames.feed(sifter, Observing.of(3, 4).more().block(1, 4).frame());
            String before = Asked.state(sifter);
            Due.same("before", before.startsWith("2 1 0 0 1 0 2 1 0 4 epoch 1 2 6 1 ") ? 1 : 0, 1);
            Frames.feed(sifter, Frames.longFrame(payload));
            Due.same("after", Asked.state(sifter), "3 1 0 1" + before.substring("2 1 0 0".length()));
        }
    }

    private static double reckoned(int whole, int part, int fine) {
        return (whole + part / 1024.0 + fine / 16777216.0) * 299792.458;
    }
}
