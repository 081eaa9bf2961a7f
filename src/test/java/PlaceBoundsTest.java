/** Promises 9 to 11: no position, other numbers, and the least and greatest places. */
public final class PlaceBoundsTest {
    private static final int[] WRONG = {-1, -2, -3, 4, 5, 7, 255, 256, 65536, Integer.MIN_VALUE,
        Integer.MIN_VALUE + 1, Integer.MIN_VALUE + 2, Integer.MAX_VALUE};

    public static void main(String[] args) {
        noFix();
        eachFix();
        noPlace();
        otherPlaces();
        endsOfPlaces();
        noRaw();
        otherRaws();
        endsOfRaws();
        Due.end();
    }

    private static EpochSifter at(int time, int fix, int latitude, int longitude, int height) {
        EpochSifter sifter = new EpochSifter();
        Frames.feed(sifter, Frames.position(time, fix, latitude, longitude, height));
        return sifter;
    }

    /** Objects that have had frames, but no position that is a latest one. */
    private static EpochSifter[] without() {
        EpochSifter observed = new EpochSifter();
        Frames.feed(observed, Observing.of(1, 2).block(1, 1).frame());
        EpochSifter begun = new EpochSifter();
        Frames.feed(begun, Frames.head(Frames.position(9, 2, 9, 9, 9), 24));
        EpochSifter tooShort = new EpochSifter();
        Frames.feed(tooShort, Frames.shortFrame(1, 7, Frames.head(Frames.positionPayload(9, 2, 9, 9, 9), 16)));
        return new EpochSifter[] {new EpochSifter(), observed, begun, tooShort, at(9, 1, 9, 9, 9),
            at(9, 5, 9, 9, 9)};
    }

    private static void noFix() {
        Due.sentence("The FIX of the latest position; 0 if there was none.");
        for (EpochSifter sifter : without()) {
            Due.same("fix()", sifter.fix(), 0);
        }
    }

    private static void eachFix() {
        Due.sentence("The FIX of the latest position");
        EpochSifter sifter = new EpochSifter();
        int[] fixes = {2, 1, 3, 0, 4, 5, 2, 255};
        int[] due = {2, 2, 3, 3, 4, 4, 2, 2};
        for (int i = 0; i < fixes.length; i++) {
            Frames.feed(sifter, Frames.position(i, fixes[i], i, i, i));
            Due.same("after " + fixes[i], sifter.fix(), due[i]);
        }
        Frames.feed(sifter, Frames.shortFrame(1, 8, Frames.positionPayload(9, 4, 9, 9, 9)));
        sifter.flush();
        Due.same("after another frame and a flush", Asked.position(sifter), "2 6 6 6 6");
    }

    private static void noPlace() {
        Due.sentence("place: 0.0 if there was none");
        for (EpochSifter sifter : without()) {
            for (int which = 0; which <= 2; which++) {
                Due.same("place(" + which + ")", sifter.place(which), 0.0);
            }
        }
    }

    private static void otherPlaces() {
        Due.sentence("place: 0.0 for another which");
        EpochSifter sifter = at(1, 2, 3, 4, 5);
        Due.same("place(3)", sifter.place(3), 0.0);
        for (int which : WRONG) {
            Due.same("place(" + which + ")", sifter.place(which), 0.0);
            Due.same("place(" + which + ") of a new object", new EpochSifter().place(which), 0.0);
        }
    }

    private static void endsOfPlaces() {
        Due.sentence("times 0.0000001, or its height (2), times 0.001");
        EpochSifter least = at(0, 2, Integer.MIN_VALUE, Integer.MIN_VALUE, Integer.MIN_VALUE);
        Due.same("least latitude", least.place(0), -2147483648.0 * 0.0000001);
        Due.same("least longitude", least.place(1), -2147483648.0 * 0.0000001);
        Due.same("least height", least.place(2), -2147483648.0 * 0.001);
        EpochSifter greatest = at(0, 2, Integer.MAX_VALUE, Integer.MAX_VALUE, Integer.MAX_VALUE);
        Due.same("greatest latitude", greatest.place(0), 2147483647.0 * 0.0000001);
        Due.same("greatest longitude", greatest.place(1), 2147483647.0 * 0.0000001);
        Due.same("greatest height", greatest.place(2), 2147483647.0 * 0.001);
        EpochSifter nought = at(-1, 2, 0, 0, 0);
        for (int which = 0; which <= 2; which++) {
            Due.same("nought", nought.place(which), 0.0);
        }
        // A quotient by 10000000 or 1000 would be 47.3912345, 8.5123457 and 0.009.
        EpochSifter rounded = at(0, 2, 473912345, -473912345, 9);
        Due.same("a product, not a quotient", rounded.place(0), 47.391234499999996);
        Due.same("with its sign", rounded.place(1), -47.391234499999996);
        Due.same("height", rounded.place(2), 9 * 0.001);
    }

    private static void noRaw() {
        Due.sentence("raw: 0 if there was none");
        for (EpochSifter sifter : without()) {
            for (int which = 0; which <= 3; which++) {
                Due.same("raw(" + which + ")", sifter.raw(which), 0);
            }
        }
    }

    private static void otherRaws() {
        Due.sentence("raw: 0 for another which");
        EpochSifter sifter = at(1, 2, 3, 4, 5);
        for (int which : WRONG) {
            Due.same("raw(" + which + ")", sifter.raw(which), 0);
            Due.same("raw(" + which + ") of a new object", new EpochSifter().raw(which), 0);
        }
    }

    private static void endsOfRaws() {
        Due.sentence("The numbers of the latest position as they came");
        int[] ends = {Integer.MIN_VALUE, -1, 0, 1, Integer.MAX_VALUE};
        for (int end : ends) {
            EpochSifter sifter = at(end, 4, ~end, end ^ 5, end ^ 6);
            Due.same("raw(0)", sifter.raw(0), end);
            Due.same("raw(1)", sifter.raw(1), ~end);
            Due.same("raw(2)", sifter.raw(2), end ^ 5);
            Due.same("raw(3)", sifter.raw(3), end ^ 6);
        }
    }
}
