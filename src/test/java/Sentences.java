import java.util.function.Consumer;

/**
 * Tries each sentence of the document alone, and behind and between runs of other calls, up to the 512 that
 * an object is used for. A sentence takes the object as one without INSTRUCTIONS and ROOTS.
 */
abstract class Sentences {
    static final int SET = 0, MOVE = 1, ADD = 2, TIMES = 3, DIV = 4, IF = 5, GO = 6, LOAD = 7, STORE = 8,
            CALL = 9, GIVE = 10, CHECK = 11, SAY = 12;
    static final int UNKNOWN = -101, OUTSIDE = -102, STATE = -103, FULL = -104;
    static final long ANY = 1000000000000L, LOST = 2000000000000L;
    static final int MAX = Integer.MAX_VALUE, MIN = Integer.MIN_VALUE;

    /** What a sentence relies on: its latest RUN, its TRIAL, a member that is else spare, a new object. */
    static final int RUN = 1, TRIAL = 2, SPARE = 4, NEW = 8;

    private static final int SEEDS = 12;
    private static final int[] SHORT_RUNS = {1, 5, 40};

    static final Checks checks = new Checks();

    static int[] row(int kind, int... parts) {
        int[] made = {kind, 0, 0, 0};
        System.arraycopy(parts, 0, made, 1, parts.length);
        return made;
    }

    static void play(String name, int relies, Consumer<Desk> sentence) {
        Desk alone = new Desk(checks, name + ", alone", 0);
        sentence.accept(alone);
        int calls = alone.made();
        checks.holds(name + " leaves room for other calls: " + calls, calls > 0 && calls <= 160);
        for (int seed = 0; seed < SEEDS; seed++) {
            playBehind(name, relies, sentence, calls, seed);
            playBetween(name, relies, sentence, calls, seed);
        }
    }

    private static void playBehind(String name, int relies, Consumer<Desk> sentence, int calls, int seed) {
        int most = Desk.MOST_CALLS - calls;
        for (int run : SHORT_RUNS) {
            behind(name, sentence, run, seed, true);
        }
        Desk last = behind(name, sentence, most - 1, seed, true);
        checks.due(name + " ends with the last call", last.made(), Desk.MOST_CALLS);
        if ((relies & NEW) == 0) {
            for (int run : SHORT_RUNS) {
                behind(name, sentence, run, seed, false);
            }
            Desk also = behind(name, sentence, most - 16, seed, false);
            checks.due(name + " ends with the last call", also.made(), Desk.MOST_CALLS);
        }
    }

    private static Desk behind(String name, Consumer<Desk> sentence, int run, int seed, boolean cleared) {
        Desk desk = new Desk(checks, name + ", behind " + run + (cleared ? " and clear" : " and cuts"), seed);
        desk.begin(run);
        if (cleared) {
            desk.clear();
        } else {
            empty(desk);
        }
        sentence.accept(desk);
        return desk;
    }

    /** Takes out all INSTRUCTIONS and ROOTS; THE TRIAL and the latest RUN stay. */
    private static void empty(Desk desk) {
        for (int m = 0; m < 8; m++) {
            desk.cut(m);
            desk.root(m, false);
        }
    }

    private static void playBetween(String name, int relies, Consumer<Desk> sentence, int calls, int seed) {
        // A run or a trial in between would be the first one of an object that has to be new.
        int kept = (relies & NEW) != 0 ? relies | RUN | TRIAL : relies;
        Desk desk = new Desk(checks, name + ", between others", 1000 + seed);
        desk.disturb(Desk.MOST_CALLS / calls - 1, kept);
        sentence.accept(desk);
        checks.holds(name + " between others stays within the calls", desk.made() <= Desk.MOST_CALLS);
        Desk both = new Desk(checks, name + ", behind and between others", 2000 + seed);
        int ahead = Math.min(3, (Desk.MOST_CALLS - 40) / calls - 1);
        both.begin(Desk.MOST_CALLS - 1 - calls * (ahead + 1));
        both.clear();
        both.disturb(ahead, kept);
        sentence.accept(both);
        checks.due(name + " ends with the last call", both.made(), Desk.MOST_CALLS);
    }
}
