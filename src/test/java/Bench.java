/** What the tests of boundaries write their programs with, and ask them by. */
abstract class Bench {
    static final int SET = 0, MOVE = 1, ADD = 2, TIMES = 3, DIV = 4, IF = 5, GO = 6, LOAD = 7, STORE = 8,
            CALL = 9, GIVE = 10, CHECK = 11, SAY = 12;

    /** What each kind has as a, b, c: r register, n number, f field, m member, p place. */
    static final String[] HAS = {"rn", "rr", "rrr", "rrr", "rrr", "rrp", "p", "rf", "rf", "rm", "r", "r", "r"};

    static final int UNKNOWN = -101, OUTSIDE = -102, STATE = -103, FULL = -104;
    static final long ANY = 1000000000000L, NOT_REACHED = 2000000000000L;
    static final int MAX = Integer.MAX_VALUE, MIN = Integer.MIN_VALUE;

    static final Checks checks = new Checks();

    static void due(String call, long got, long want) {
        checks.due(call, got, want);
    }

    /** An instruction: its kind, and what it has; the rest is 0. */
    static int[] row(int kind, int... parts) {
        int[] made = {kind, 0, 0, 0};
        System.arraycopy(parts, 0, made, 1, parts.length);
        return made;
    }

    /** A new object with these instructions of member 0. */
    static DeadCode code(int[]... rows) {
        return add(new DeadCode(), 0, rows);
    }

    static DeadCode add(DeadCode code, int member, int[]... rows) {
        for (int[] one : rows) {
            if (code.put(member, one[0], one[1], one[2], one[3]) < 0) {
                due("a put that the test needs, of kind " + one[0] + " to " + member, 0, 1);
            }
        }
        return code;
    }

    static DeadCode addTimes(DeadCode code, int member, int times, int[] one) {
        for (int i = 0; i < times; i++) {
            add(code, member, one);
        }
        return code;
    }

    /** A run of the program's member 0: how it ends, what it gives, how many instructions it does. */
    static void dueRun(String what, DeadCode code, int x, int y, int ends, int gives, int done) {
        due(what + ": how it ends", code.run(0, 0, x, y), ends);
        due(what + ": what is given", code.told(0), gives);
        due(what + ": how many are done", code.told(1), done);
    }

    static void dueSaid(String what, DeadCode code, int... want) {
        due(what + ": how often something is said", code.told(2), want.length);
        for (int i = 0; i < want.length; i++) {
            due(what + ": said " + i, code.said(i), want[i]);
        }
        due(what + ": said " + want.length, code.said(want.length), 0);
    }

    static void dueFields(String what, DeadCode code, int... want) {
        for (int f = 0; f < 4; f++) {
            due(what + ": field " + f, code.told(3 + f), want[f]);
        }
    }

    /** The marks of all places of member 0. */
    static void dueMarks(String what, DeadCode code, int... want) {
        due(what + ": size", code.size(0, 0), want.length);
        for (int place = 0; place < want.length; place++) {
            due(what + ": marks of " + place, code.marks(0, place), want[place]);
        }
    }

    /** What the registers of member 0 are ahead of a place. */
    static void dueKnown(String what, DeadCode code, int place, long... want) {
        for (int r = 0; r < 4; r++) {
            due(what + ": register " + r + " at " + place, code.known(0, place, r), want[r]);
        }
    }

    static void dueLost(String what, DeadCode code, int place) {
        dueKnown(what, code, place, NOT_REACHED, NOT_REACHED, NOT_REACHED, NOT_REACHED);
    }

    /** Which registers of member 0 are read behind a place. */
    static void dueRead(String what, DeadCode code, int place, int... want) {
        for (int r = 0; r < 4; r++) {
            due(what + ": register " + r + " behind " + place, code.read(0, place, r), want[r]);
        }
    }

    /** Member 0 is a root, and is this in the trial. */
    static void dueTrial(String what, DeadCode code, int fewer, int[]... want) {
        code.root(0, true);
        due(what + ": fewer", code.trial(), fewer);
        dueParts(what, code, 1, 0, want);
    }

    static void dueParts(String what, DeadCode code, int which, int member, int[]... want) {
        due(what + ": size", code.size(which, member), want.length);
        for (int place = 0; place < want.length; place++) {
            for (int part = 0; part < 4; part++) {
                due(what + ": part " + part + " at " + place, code.part(which, member, place, part),
                        want[place][part]);
            }
        }
        due(what + ": part of THE END", code.part(which, member, want.length, 0), UNKNOWN);
    }
}
