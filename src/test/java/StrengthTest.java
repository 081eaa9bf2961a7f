/** Promise 7. */
public final class StrengthTest {
    public static void main(String[] args) {
        EpochSifter sifter = new EpochSifter();
        Frames.feed(sifter, Observing.of(1, 2).more().cell(1, 1, -1, 0).cell(1, 2, -1, 63)
                .cell(9, 1, 0, 32).cell(10, 2, -16384, 31).frame());
        Due.same("gathered only", sifter.strength(0), -1);
        Frames.feed(sifter, Observing.of(1, 2).satellite(3, 255, 1).cell(3, 3, 5, 17).frame());
        int[] due = {0, 63, 32, 31, 17, -1};
        for (int k = 0; k < due.length; k++) {
            Due.same("strength(" + k + ")", sifter.strength(k), due[k]);
        }
        int[] wrong = {-1, 39, 40, 41, Integer.MIN_VALUE, Integer.MAX_VALUE};
        for (int k : wrong) {
            Due.same("strength(" + k + ")", sifter.strength(k), -1);
        }
        Frames.feed(sifter, Observing.of(1, 2).frame());
        Due.same("an epoch without cells", sifter.strength(0), -1);
        Due.end();
    }
}
