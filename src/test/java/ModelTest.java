import java.util.ArrayList;
import java.util.List;
import java.util.Random;

/**
 * Many programs by a fixed seed: the class and the model answer alike, and a trial does what its program does.
 * An object is used for 512 calls, so that a whole program is asked about by means of several copies.
 */
public final class ModelTest {
    private static final Checks checks = new Checks();
    private static final int[] NUMBERS = {0, 0, 1, 1, -1, 2, 3, 5, 7, Integer.MAX_VALUE, Integer.MIN_VALUE, 1 << 16};

    private static final int MOST_CALLS = 512;

    private final Random random;
    private final Model model = new Model();
    private final List<int[]> puts = new ArrayList<>();
    private final List<Integer> roots = new ArrayList<>();
    private DeadCode code = new DeadCode();

    private ModelTest(long seed) {
        random = new Random(seed);
    }

    public static void main(String[] args) {
        for (int seed = 0; seed < 1500 && checks.wrong() == 0; seed++) {
            new ModelTest(seed).mixedCalls();
        }
        for (int seed = 0; seed < 2500 && checks.wrong() == 0; seed++) {
            new ModelTest(1000000L + seed).wholeProgram();
        }
        checks.end("ModelTest");
    }

    private void mixedCalls() {
        for (int left = MOST_CALLS; left > 0;) {
            left -= left > 12 && random.nextInt(12) == 0 ? aRun() : oneCall();
        }
    }

    /** A run and some of what is told of it: how many calls these are. */
    private int aRun() {
        int which = random.nextInt(8) == 0 ? random.nextInt(4) - 1 : random.nextInt(2);
        int m = member();
        int x = number();
        int y = number();
        checks.due("run " + which + " " + m, code.run(which, m, x, y), model.run(which, m, x, y));
        for (int what = 0; what < 7; what++) {
            checks.due("told " + what, code.told(what), model.told(what));
        }
        for (int i = 0; i < 4; i++) {
            int nth = random.nextInt(random.nextBoolean() ? 4 : 64) - 1;
            checks.due("said " + nth, code.said(nth), model.said(nth));
        }
        return 12;
    }

    private int oneCall() {
        int m = member();
        int place = random.nextInt(26) - 1;
        int r = random.nextInt(6) - 1;
        int which = random.nextInt(8) == 0 ? random.nextInt(4) - 1 : random.nextInt(2);
        switch (random.nextInt(40)) {
            case 0: checks.due("cut " + m, code.cut(m), model.cut(m)); break;
            case 1: case 2: case 3: rootOf(m, random.nextInt(3) != 0); break;
            case 4: case 5: checks.due("trial", code.trial(), model.trial()); break;
            case 6: checks.due("told " + place, code.told(place), model.told(place)); break;
            case 10: checks.due("marks " + m + " " + place, code.marks(m, place), model.marks(m, place)); break;
            case 11: case 12: knownOf(m, place, r); break;
            case 13: case 14: readOf(m, place, r); break;
            case 15: checks.due("used " + m, code.used(m), model.used(m)); break;
            case 16: checks.due("field " + r, code.field(r), model.field(r)); break;
            case 17: checks.due("doubled " + m, code.doubled(m), model.doubled(m)); break;
            case 18: checks.due("size " + which + " " + m, code.size(which, m), model.size(which, m)); break;
            case 19: partOf(which, m, place, r); break;
            case 20:
                if (random.nextInt(12) == 0) {
                    checks.due("clear", code.clear(), model.clear());
                    break;
                }
                putAny(m);
                break;
            default: putAny(m); break;
        }
        return 1;
    }

    /** Makes a program, then asks every question there is about it. */
    private void wholeProgram() {
        int members = 1 + random.nextInt(8);
        for (int m = 0; m < members; m++) {
            int size = random.nextInt(4) == 0 ? 24 : random.nextInt(25);
            for (int i = 0; i < size; i++) {
                putGood(m, size, members);
            }
            if (random.nextInt(3) == 0) {
                rootOf(m, true);
            }
        }
        for (int m = 0; m < 8; m++) {
            copy();
            askAll(m);
        }
        copy();
        for (int f = 0; f < 4; f++) {
            checks.due("field " + f, code.field(f), model.field(f));
        }
        checks.due("trial", code.trial(), model.trial());
        for (int m = 0; m < 8; m++) {
            askAllOfTrial(m);
        }
    }

    /** The program once more in a new object: 200 calls at most. */
    private void copy() {
        code = new DeadCode();
        for (int[] one : puts) {
            code.put(one[0], one[1], one[2], one[3], one[4]);
        }
        for (int m : roots) {
            code.root(m, true);
        }
    }

    private void askAllOfTrial(int m) {
        copy();
        code.trial();
        checks.due("size " + m, code.size(1, m), model.size(1, m));
        for (int place = -1; place < 25; place++) {
            for (int what = 0; what < 4; what++) {
                partOf(1, m, place, what);
            }
        }
        runOf(1, m, number(), number());
        copy();
        code.trial();
        if (code.used(m) == 1) {
            trialDoesTheSame(m, number(), number());
            trialDoesTheSame(m, number(), number());
        }
    }

    private void askAll(int m) {
        checks.due("used " + m, code.used(m), model.used(m));
        checks.due("doubled " + m, code.doubled(m), model.doubled(m));
        for (int place = -1; place < 25; place++) {
            checks.due("marks " + m + " " + place, code.marks(m, place), model.marks(m, place));
            for (int r = 0; r < 4; r++) {
                knownOf(m, place, r);
                readOf(m, place, r);
            }
        }
    }

    /** A run that is too long may end elsewhere in the trial, as the trial does fewer instructions. */
    private void trialDoesTheSame(int m, int x, int y) {
        int ended = code.run(0, m, x, y);
        long[] first = tellings();
        int done = (int) code.told(1);
        int endedToo = code.run(1, m, x, y);
        long[] then = tellings();
        if (ended == 4) {
            return;
        }
        checks.due("how the trial ends", endedToo, ended);
        checks.holds("the trial does no more", code.told(1) <= done);
        for (int i = 0; i < first.length; i++) {
            checks.due("telling " + i + " of the trial", then[i], first[i]);
        }
    }

    private long[] tellings() {
        long[] all = new long[66];
        all[0] = code.told(0);
        for (int what = 2; what < 7; what++) {
            all[what - 1] = code.told(what);
        }
        for (int i = 0; i < 60; i++) {
            all[6 + i] = code.said(i);
        }
        return all;
    }

    private void rootOf(int m, boolean on) {
        if (on) {
            roots.add(m);
        }
        checks.due("root " + m + " " + on, code.root(m, on), model.root(m, on));
    }

    private void runOf(int which, int m, int x, int y) {
        checks.due("run " + which + " " + m, code.run(which, m, x, y), model.run(which, m, x, y));
        for (int what = -1; what < 8; what++) {
            checks.due("told " + what, code.told(what), model.told(what));
        }
        for (int i = -1; i < 62; i++) {
            checks.due("said " + i, code.said(i), model.said(i));
        }
    }

    private void knownOf(int m, int place, int r) {
        checks.due("known " + m + " " + place + " " + r, code.known(m, place, r), model.known(m, place, r));
    }

    private void readOf(int m, int place, int r) {
        checks.due("read " + m + " " + place + " " + r, code.read(m, place, r), model.read(m, place, r));
    }

    private void partOf(int which, int m, int place, int what) {
        checks.due("part " + which + " " + m + " " + place + " " + what,
                code.part(which, m, place, what), model.part(which, m, place, what));
    }

    private void put(int m, int kind, int a, int b, int c) {
        puts.add(new int[] {m, kind, a, b, c});
        checks.due("put " + m + " " + kind + " " + a + " " + b + " " + c,
                code.put(m, kind, a, b, c), model.put(m, kind, a, b, c));
    }

    private void putAny(int m) {
        if (random.nextInt(12) == 0) {
            put(m, random.nextInt(15) - 1, random.nextInt(28) - 1, random.nextInt(10) - 1, random.nextInt(28) - 1);
        } else {
            putGood(m, 12, 8);
        }
    }

    private void putGood(int m, int size, int members) {
        int kind = random.nextInt(3) == 0 ? random.nextInt(2) * 5 : random.nextInt(13);
        int place = Math.min(24, random.nextInt(size + 2));
        int a = random.nextInt(4);
        int b = random.nextInt(4);
        int c = random.nextInt(4);
        switch (kind) {
            case 0: put(m, kind, a, number(), random.nextInt()); break;
            case 5: put(m, kind, a, b, place); break;
            case 6: put(m, kind, place, b, c); break;
            case 9: put(m, kind, a, random.nextInt(members), c); break;
            default: put(m, kind, a, b, c); break;
        }
    }

    private int number() {
        return NUMBERS[random.nextInt(NUMBERS.length)];
    }

    private int member() {
        return random.nextInt(12) == 0 ? random.nextInt(10) - 1 : random.nextInt(random.nextBoolean() ? 8 : 2);
    }
}
