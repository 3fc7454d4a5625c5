/** Counts the answers that are not as due, for the tests of the project. */
final class Checks {
    private static int made = 0;
    private static int wrong = 0;

    private Checks() {
    }

    static void due(String call, long got, long want) {
        made++;
        if (got != want) {
            wrong++;
            System.out.println(call + " answered " + got + ", due is " + want);
        }
    }

    static void due(String call, boolean got, boolean want) {
        due(call, got ? 1 : 0, want ? 1 : 0);
    }

    static void end() {
        System.out.println(made + " answers, " + wrong + " not as due");
        if (wrong != 0 || made == 0) {
            System.exit(1);
        }
    }

    static void pokeAll(TaskComputer computer, int address, int... bytes) {
        for (int i = 0; i < bytes.length; i++) {
            computer.poke(address + i, bytes[i]);
        }
    }

    /**
     * What tells of the state, so that "changing nothing" can be seen; of memory only the edges of
     * its blocks with the first frames, as an object is good for 512 calls.
     */
    static String pictureOf(TaskComputer computer) {
        StringBuilder text = new StringBuilder();
        for (int address = 0; address < 512; address++) {
            if (address % 128 == 0 || address % 128 >= 116) {
                text.append(computer.peek(address)).append(' ');
            }
        }
        for (int t = 0; t < 4; t++) {
            text.append('/').append(computer.state(t)).append(' ').append(computer.sleeps(t));
            text.append(' ').append(computer.status(t)).append(' ').append(computer.queued(t));
            for (int k = 0; k < 12; k++) {
                text.append(' ').append(computer.register(t, k));
            }
        }
        text.append('/').append(computer.cycles()).append(' ').append(computer.ticks());
        text.append(' ').append(computer.lost()).append(' ').append(computer.left());
        return text.toString();
    }
}
