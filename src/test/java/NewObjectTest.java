/** Promise 1. */
public final class NewObjectTest {
    public static void main(String[] args) {
        EpochSifter sifter = new EpochSifter();
        Due.same("counts", Frames.counts(sifter), "0 0 0 0 0 0 0 0 0 -1");
        for (int what = -1; what <= 4; what++) {
            Due.same("epoch(" + what + ")", sifter.epoch(what), -1);
            Due.same("cell(" + what + ")", sifter.cell(what), -1);
            Due.same("range(" + what + ")", sifter.range(what), -1.0);
            Due.same("strength(" + what + ")", sifter.strength(what), -1);
            Due.same("place(" + what + ")", sifter.place(what), 0.0);
            Due.same("raw(" + what + ")", sifter.raw(what), 0);
        }
        Due.same("mean()", sifter.mean(), -1.0);
        Due.same("fix()", sifter.fix(), 0);
        Due.same("flush()", sifter.flush(), 0);
        Due.same("counts after flush", Frames.counts(sifter), "0 0 0 0 0 0 0 0 0 -1");
        objectsAreApart();
        Due.end();
    }

    private static void objectsAreApart() {
        EpochSifter first = new EpochSifter();
        Frames.feed(first, Observing.of(1, 2).more().block(2, 2).frame());
        Frames.feed(first, Frames.position(1, 2, 3, 4, 5));
        Frames.feed(first, 0, 211);
        EpochSifter second = new EpochSifter();
        Due.same("counts of another", Frames.counts(second), "0 0 0 0 0 0 0 0 0 -1");
        Due.same("fix of another", second.fix(), 0);
        Due.same("counts of the first", Frames.counts(first), "1 1 1 0 0 0 1 1 1 4");
    }
}
