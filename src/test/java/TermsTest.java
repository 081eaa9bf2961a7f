/** "Terms" from its first sentence to its last one, each with an ordinary run of calls. */
public final class TermsTest {
    // Bytes that are written out, so that no helper of the tests stands between them and the program.
    private static final String EMPTY_LONG = "D3 00 00 47 EA 4B";
    private static final String EMPTY_SHORT = "B5 62 0A 04 00 00 0E 34";
    /** MESSAGE 1001, STATION 77, TIME 123456, satellite 5, signal 2: 70, 512, 100 and 45. */
    private static final String ONE_CELL =
            "D3 00 0F 3E 90 4D 00 07 89 00 10 00 94 68 00 03 25 A0 AD 11 2A";
    /** Time 5000, FIX 3, 47.3912345 and -8.5123456 degrees, 412.345 metres. */
    private static final String PLACE = "B5 62 01 07 11 00 88 13 00 00 03 19 54 3F 1C "
            + "80 1E ED FA B9 4A 06 00 0D 8D";

    public static void main(String[] args) {
        stream();
        longFrame();
        longCheck();
        shortFrame();
        shortSums();
        skipped();
        taken();
        waiting();
        bits();
        numbers();
        observation();
        gathered();
        cellsOfAnEpoch();
        done();
        range();
        position();
        latestPosition();
        refused();
        Due.end();
    }

    private static int feed(EpochSifter sifter, String bytes) {
        int taken = 0;
        for (String octet : bytes.split(" ")) {
            taken += sifter.put(Integer.parseInt(octet, 16), 1);
        }
        return taken;
    }

    private static void stream() {
        Due.sentence("The STREAM is a row of bytes; those that are not dealt with yet are kept");
        EpochSifter sifter = new EpochSifter();
        feed(sifter, "01 D3 00 05 D3");
        Due.same("one is skipped, four are kept", Frames.counts(sifter), "0 0 1 0 0 0 0 0 4 -1");
    }

    private static void longFrame() {
        Due.sentence("211 begins a LONG frame: a number of 16 bits, the PAYLOAD, then 3 bytes, the CHECK");
        EpochSifter sifter = new EpochSifter();
        Due.same("without a payload", feed(sifter, EMPTY_LONG), 1);
        Due.same("with 15 bytes", feed(sifter, ONE_CELL), 1);
        Due.same("long frames", Frames.counts(sifter), "2 0 0 1 1 0 1 0 0 -1");
        Due.same("one of the 6 bits is on", feed(sifter, "D3 04 00 47 EA 4B"), 0);
        Due.same("skipped", sifter.count(2), 6);
    }

    private static void longCheck() {
        Due.sentence("the CHECK: of all bytes before them in the frame, 24 bits, from 0");
        EpochSifter sifter = new EpochSifter();
        int sum = sifter.check(0, 0xD3000F3E, 4);
        sum = sifter.check(sum, 0x904D0007, 4);
        sum = sifter.check(sum, 0x89001000, 4);
        sum = sifter.check(sum, 0x94680003, 4);
        Due.same("of 18 bytes", sifter.check(sum, 0x25A0, 2), 0xAD112A);
        Due.same("a byte of the payload is another", feed(sifter, ONE_CELL.replace("4D", "4C")), 0);
        Due.same("the bytes of the check change places", feed(sifter, "D3 00 00 4B EA 47"), 0);
        Due.same("no frame", Frames.counts(sifter), "0 0 27 0 0 0 0 0 0 -1");
    }

    private static void shortFrame() {
        Due.sentence("181 and 98 begin a SHORT frame: KIND, NUMBER, LENGTH, the lower one first, the payload");
        EpochSifter sifter = new EpochSifter();
        Due.same("without a payload", feed(sifter, EMPTY_SHORT), 1);
        Due.same("with 17 bytes", feed(sifter, PLACE), 1);
        Due.same("short frames", Frames.counts(sifter), "0 2 0 1 0 0 0 1 0 -1");
        Due.same("the upper one first", feed(sifter, PLACE.replace("11 00", "00 11")), 0);
        Due.same("no other frame", sifter.count(1), 2);
    }

    private static void shortSums() {
        Due.sentence("for each byte from KIND to the end of the payload: x grows by it, y grows by x");
        EpochSifter sifter = new EpochSifter();
        // 3, 4, 2, 0, 200, 100: x is 3 7 9 9 209 53, y is 3 10 19 28 237 34.
        Due.same("both go over 255", feed(sifter, "B5 62 03 04 02 00 C8 64 35 22"), 1);
        Due.same("x is another", feed(sifter, "B5 62 03 04 02 00 C8 64 36 22"), 0);
        Due.same("y is another", feed(sifter, "B5 62 03 04 02 00 C8 64 35 23"), 0);
        Due.same("counts", Frames.counts(sifter), "0 1 20 1 0 0 0 0 0 -1");
    }

    private static void skipped() {
        Due.sentence("cannot be of such a frame whatever comes: this byte is SKIPPED, the next one dealt with");
        EpochSifter sifter = new EpochSifter();
        String[] wrong = {"07", "D3 08", "D3 01", "D3 00 5B", "B5 61", "B5 62 01 07 5B", "B5 62 01 07 00 01"};
        int bytes = 0;
        for (String row : wrong) {
            feed(sifter, row);
            bytes += (row.length() + 1) / 3;
            Due.same("skipped with " + row, sifter.count(2), bytes);
            Due.same("kept behind " + row, sifter.count(8), 0);
        }
        Due.same("a frame behind a byte that begins none", feed(sifter, "D3 " + EMPTY_LONG), 1);
        Due.same("skipped", sifter.count(2), bytes + 1);
    }

    private static void taken() {
        Due.sentence("If the frame is whole and right, it is TAKEN, and one deals with what is behind it.");
        EpochSifter sifter = new EpochSifter();
        Due.same("three in a row", feed(sifter, EMPTY_LONG + " " + PLACE + " " + EMPTY_SHORT), 3);
        Due.same("counts", Frames.counts(sifter), "1 2 0 2 0 0 0 1 0 -1");
    }

    private static void waiting() {
        Due.sentence("If it may still become one, one waits for more.");
        EpochSifter sifter = new EpochSifter();
        Due.same("a frame but for its last byte", feed(sifter, EMPTY_LONG.substring(0, 14)), 0);
        Due.same("it waits", Frames.counts(sifter), "0 0 0 0 0 0 0 0 5 -1");
        Due.same("the last byte", feed(sifter, "4B"), 1);
    }

    private static void bits() {
        Due.sentence("MESSAGE 12 bits, STATION 12, TIME 30, MORE 1, SATELLITES 16, SIGNALS 4, CELLS");
        EpochSifter sifter = new EpochSifter();
        feed(sifter, ONE_CELL);
        Due.same("TIME, STATION, cells, observations", Asked.epoch(sifter), "123456 77 1 1");
        Due.same("system 1, satellite 5, signal 2", sifter.cell(0), 1052);
    }

    private static void numbers() {
        Due.sentence("for each satellite WHOLE 8 bits; PART 10 bits; for each cell FINE 15 bits; STRENGTH 6 bits");
        EpochSifter sifter = new EpochSifter();
        Frames.feed(sifter, Observing.of(1, 2).satellite(2, 1, 256).satellite(3, 2, 512)
                .cell(2, 1, 4096, 7).cell(2, 4, -4096, 8).cell(3, 4, 0, 9).frame());
        Due.same("cell 0", Asked.cell(sifter, 0), "21 " + 1.250244140625 * 299792.458 + " 7");
        Due.same("cell 1", Asked.cell(sifter, 1), "24 " + 1.249755859375 * 299792.458 + " 8");
        Due.same("cell 2", Asked.cell(sifter, 2), "34 " + 2.5 * 299792.458 + " 9");
    }

    private static void observation() {
        Due.sentence("It is an OBSERVATION if MESSAGE is 1000 .. 1003; else it is FOREIGN, nothing else happens");
        EpochSifter sifter = new EpochSifter();
        for (int message = 999; message <= 1004; message++) {
            Frames.feed(sifter, Observing.of(message, 2).message(message).block(1, 1).frame());
        }
        Due.same("four of six", Frames.counts(sifter), "6 0 0 2 4 0 4 0 0 -1");
        Due.same("the last of the four", Asked.epoch(sifter) + " " + sifter.cell(0), "1003 2 1 1 3011");
        Frames.feed(sifter, Observing.of(1, 2).block(5, 4).frame());
        Due.same("20 cells are foreign", Frames.counts(sifter), "7 0 0 3 4 0 4 0 0 -1");
    }

    private static void gathered() {
        Due.sentence("if they are not both the same, that one is LOST (if one is being gathered), a new one begins");
        EpochSifter sifter = new EpochSifter();
        Frames.feed(sifter, Observing.of(1, 2).more().block(1, 1).frame());
        Due.same("begun, none lost", Frames.counts(sifter), "1 0 0 0 0 0 1 0 0 1");
        Frames.feed(sifter, Observing.of(1, 2).more().block(1, 2).frame());
        Due.same("the same", Frames.counts(sifter), "2 0 0 0 0 0 2 0 0 3");
        Frames.feed(sifter, Observing.of(1, 3).more().block(1, 4).frame());
        Due.same("another station", Frames.counts(sifter), "3 0 0 0 0 1 3 0 0 4");
        Frames.feed(sifter, Observing.of(2, 3).more().block(1, 3).frame());
        Due.same("another time", Frames.counts(sifter), "4 0 0 0 0 2 4 0 0 3");
    }

    private static void cellsOfAnEpoch() {
        Due.sentence("Its cells come to the epoch, in their order; an epoch keeps the first 40.");
        EpochSifter sifter = new EpochSifter();
        for (int system = 0; system < 3; system++) {
            Frames.feed(sifter, Observing.of(1, 2).message(1000 + system).more().block(4, 4).frame());
        }
        Frames.feed(sifter, Observing.of(1, 2).message(1003).block(1, 1).frame());
        Due.same("48 and one came", Asked.epoch(sifter), "1 2 40 4");
        int[] places = {0, 1, 15, 16, 31, 32, 39, 40};
        int[] names = {11, 12, 44, 1011, 1044, 2011, 2024, -1};
        for (int i = 0; i < places.length; i++) {
            Due.same("cell " + places[i], sifter.cell(places[i]), names[i]);
        }
    }

    private static void done() {
        Due.sentence("If MORE is 0, the epoch is DONE, and is the LATEST one.");
        EpochSifter sifter = new EpochSifter();
        Frames.feed(sifter, Observing.of(1, 2).more().block(1, 1).frame());
        Due.same("not yet", Asked.epoch(sifter) + " " + sifter.count(4), "-1 -1 -1 -1 0");
        Frames.feed(sifter, Observing.of(1, 2).block(1, 1).frame());
        Due.same("done", Asked.epoch(sifter) + " " + sifter.count(4), "1 2 2 2 1");
        Frames.feed(sifter, Observing.of(3, 4).block(1, 1).frame());
        Due.same("the next one", Asked.epoch(sifter) + " " + sifter.count(4), "3 4 1 1 2");
        Due.same("none was lost", sifter.count(5), 0);
    }

    private static void range() {
        Due.sentence("(WHOLE + PART / 1024.0 + FINE / 16777216.0) * 299792.458; -1.0 if WHOLE is 255 or FINE -16384");
        EpochSifter sifter = new EpochSifter();
        feed(sifter, ONE_CELL);
        Due.same("70, 512 and 100", sifter.range(0), 2.1135370075902294E7);
        Frames.feed(sifter, Observing.of(1, 2).satellite(1, 255, 0).cell(1, 1, 0, 0)
                .satellite(2, 254, 0).cell(2, 1, -16384, 0).frame());
        Due.same("WHOLE 255", sifter.range(0), -1.0);
        Due.same("FINE -16384", sifter.range(1), -1.0);
    }

    private static void position() {
        Due.sentence("KIND 1, NUMBER 7 and a length of 17 or more is a POSITION");
        EpochSifter sifter = new EpochSifter();
        feed(sifter, PLACE);
        Due.same("counts", Frames.counts(sifter), "0 1 0 0 0 0 0 1 0 -1");
        Due.same("its numbers", Asked.position(sifter), "3 5000 473912345 -85123456 412345");
    }

    private static void latestPosition() {
        Due.sentence("it is the latest one if FIX is 2 .. 4. Other short frames, and other FIX, are FOREIGN.");
        EpochSifter sifter = new EpochSifter();
        for (int fix = 0; fix <= 5; fix++) {
            Frames.feed(sifter, Frames.position(fix, fix, 10 * fix, 20 * fix, 30 * fix));
        }
        Due.same("three of six", Frames.counts(sifter), "0 6 0 3 0 0 0 3 0 -1");
        Due.same("the last of the three", Asked.position(sifter), "4 4 40 80 120");
        feed(sifter, EMPTY_SHORT);
        Due.same("another short frame", sifter.count(3), 4);
    }

    private static void refused() {
        Due.sentence("A call that is refused changes nothing.");
        EpochSifter sifter = new EpochSifter();
        feed(sifter, "D3 00");
        Due.same("put", sifter.put(0xFF, 0), -1);
        Due.same("check", sifter.check(1, 1, 5), -1);
        Due.same("counts", Frames.counts(sifter), "0 0 0 0 0 0 0 0 2 -1");
        Due.same("the frame goes on", feed(sifter, "00 47 EA 4B"), 1);
    }
}
