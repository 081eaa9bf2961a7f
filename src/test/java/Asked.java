/** Asks an object for what it tells, in one text. */
final class Asked {
    private static final int CELLS = 42;

    private Asked() {}

    /** All that can be asked, in 150 calls; it is the form of PlainModel's state. */
    static String state(EpochSifter sifter) {
        StringBuilder text = new StringBuilder(Frames.counts(sifter));
        text.append(" epoch ").append(epoch(sifter));
        for (int k = 0; k < CELLS; k++) {
            text.append(' ').append(cell(sifter, k));
        }
        text.append(" mean ").append(sifter.mean()).append(' ').append(position(sifter));
        for (int which = 0; which < 3; which++) {
            text.append(' ').append(sifter.place(which));
        }
        return text.toString();
    }

    /** TIME, STATION, cells and observations of the latest epoch. */
    static String epoch(EpochSifter sifter) {
        return sifter.epoch(0) + " " + sifter.epoch(1) + " " + sifter.epoch(2) + " " + sifter.epoch(3);
    }

    /** Name, range and strength of one cell. */
    static String cell(EpochSifter sifter, int k) {
        return sifter.cell(k) + " " + sifter.range(k) + " " + sifter.strength(k);
    }

    /** FIX, time, latitude, longitude and height of the latest position. */
    static String position(EpochSifter sifter) {
        return sifter.fix() + " " + sifter.raw(0) + " " + sifter.raw(1) + " " + sifter.raw(2) + " "
                + sifter.raw(3);
    }
}
