/** Promises 3 to 12: what is asked, and what is refused, changes nothing that comes later. */
public final class AskingTest {
    private static final int[] ARGUMENTS = {Integer.MIN_VALUE, -1, 0, 1, 2, 3, 4, 9, 10, 39, 40, 41,
        Integer.MAX_VALUE};

    public static void main(String[] args) {
        int[] stream = Frames.join(Frames.row(7, 211, 0), Observing.of(1, 2).more().block(2, 2).frame(),
                Frames.position(1, 3, 2, 3, 4), Observing.of(1, 2).block(1, 3).frame(),
                Frames.shortFrame(5, 5, 5), Observing.of(3, 4).more().block(1, 1).frame(),
                Frames.row(181, 98, 1, 7, 30));
        // One question for each object, since all of them would be more than 512 calls.
        for (int question = 0; question < 10; question++) {
            for (int argument : ARGUMENTS) {
                EpochSifter silent = new EpochSifter();
                EpochSifter asked = new EpochSifter();
                for (int octet : stream) {
                    String name = "put behind question " + question + " (" + argument + ")";
                    Due.same(name, asked.put(octet, 1), silent.put(octet, 1));
                    ask(asked, question, argument);
                }
                Due.same("state", Asked.state(asked), Asked.state(silent));
            }
        }
        Due.end();
    }

    private static void ask(EpochSifter sifter, int question, int argument) {
        switch (question) {
            case 0 -> sifter.count(argument);
            case 1 -> sifter.epoch(argument);
            case 2 -> sifter.cell(argument);
            case 3 -> sifter.range(argument);
            case 4 -> sifter.strength(argument);
            case 5 -> sifter.mean();
            case 6 -> sifter.fix();
            case 7 -> sifter.place(argument);
            case 8 -> sifter.raw(argument);
            default -> sifter.check(argument, argument, argument);
        }
    }
}
