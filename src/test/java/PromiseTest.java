/** For each promise of the document: ordinary inputs, the edges that it names, and wrong inputs. */
public final class PromiseTest {
    private static final Checks checks = new Checks();
    private static final int SET = 0, MOVE = 1, ADD = 2, TIMES = 3, DIV = 4, IF = 5, GO = 6, LOAD = 7,
            STORE = 8, CALL = 9, GIVE = 10, CHECK = 11, SAY = 12;
    private static final long ANY = 1000000000000L, NOT_REACHED = 2000000000000L;
    private static final int MAX = Integer.MAX_VALUE, MIN = Integer.MIN_VALUE;
    private static final int UNKNOWN = -101, OUTSIDE = -102, STATE = -103, FULL = -104;

    public static void main(String[] args) {
        promise1NewObject();
        promise2Put();
        promise2PutOrder();
        promise3Cut();
        promise4Root();
        promise5Trial();
        promise5TrialAgainAndAgain();
        promise5TrialPlaces();
        promise6RunKinds();
        promise6RunEndings();
        promise6RunRefused();
        promise6RunAnew();
        promise7Told();
        promise8Said();
        promise9Marks();
        promise10Known();
        promise10KnownWays();
        promise11Read();
        promise11ReadOrSet();
        promise12Used();
        promise13Field();
        promise14Doubled();
        promise14NamedFirst();
        promise15Size();
        promise16Part();
        promise17Clear();
        fullMembers();
        extremeNumbers();
        checks.end("PromiseTest");
    }

    private static void due(String call, long got, long want) {
        checks.due(call, got, want);
    }

    /** Puts one instruction, which must be taken. */
    private static void put(DeadCode code, int member, int kind, int a, int b, int c) {
        int place = code.size(0, member);
        due("put " + member + " " + kind, code.put(member, kind, a, b, c), place);
    }

    private static void put(DeadCode code, int kind, int a, int b, int c) {
        put(code, 0, kind, a, b, c);
    }

    private static void dueMarks(DeadCode code, int member, int... want) {
        for (int place = 0; place < want.length; place++) {
            due("marks " + member + " " + place, code.marks(member, place), want[place]);
        }
        due("marks of THE END", code.marks(member, want.length), UNKNOWN);
    }

    private static void dueRun(DeadCode code, int member, int x, int y, int ends, int gives) {
        due("run " + member, code.run(0, member, x, y), ends);
        due("told(0) of run " + member, code.told(0), gives);
    }

    /** An instruction of THE TRIAL's member, by kind, a, b, c. */
    private static void dueTrialPart(DeadCode code, int member, int place, int... want) {
        for (int what = 0; what < 4; what++) {
            due("part 1 " + member + " " + place + " " + what, code.part(1, member, place, what), want[what]);
        }
    }

    private static void promise1NewObject() {
        DeadCode code = new DeadCode();
        for (int m = 0; m < 8; m++) {
            due("size of a new one", code.size(0, m), 0);
            due("used of a new one", code.used(m), 0);
            due("doubled of a new one", code.doubled(m), 0);
            due("STATE of a new one", code.size(1, m), STATE);
        }
        for (int what = 0; what < 7; what++) {
            due("told of a new one", code.told(what), 0);
        }
        due("said of a new one", code.said(0), 0);
        due("trial of a new one", code.trial(), 0);
        DeadCode other = new DeadCode();
        put(code, SAY, 0, 0, 0);
        code.root(0, true);
        due("objects share no instructions", other.size(0, 0), 0);
        due("objects share no roots", other.used(0), 0);
        due("objects share no trial", other.size(1, 0), STATE);
    }

    private static void promise2Put() {
        DeadCode code = new DeadCode();
        for (int place = 0; place < 24; place++) {
            due("put at " + place, code.put(7, SET, 3, MIN + place, 9), place);
        }
        due("put of the 25th", code.put(7, SET, 0, 0, 0), FULL);
        due("size when full", code.size(0, 7), 24);
        due("another member is not full", code.put(6, SET, 0, 0, 0), 0);
        due("n is any int", code.part(0, 7, 23, 2), MIN + 23);
        due("GO to 24", code.put(0, GO, 24, MAX, MIN), 0);
        due("GO to 0", code.put(0, GO, 0, -1, 99), 1);
        due("IF to 24", code.put(0, IF, 3, 3, 24), 2);
        due("CALL of 7", code.put(0, CALL, 3, 7, -5), 3);
        due("LOAD of 3", code.put(0, LOAD, 3, 3, -5), 4);
        due("STORE to 3", code.put(0, STORE, 3, 3, 400), 5);
        due("GIVE looks at a alone", code.put(0, GIVE, 3, -1, -1), 6);
        due("CHECK looks at a alone", code.put(0, CHECK, 3, 77, 77), 7);
        due("SAY looks at a alone", code.put(0, SAY, 3, MIN, MAX), 8);
        due("MOVE has no c", code.put(0, MOVE, 3, 3, 4), 9);
        put(code, 5, SAY, 0, 0, 0);
        code.root(5, true);
        due("trial", code.trial(), 35);
        put(code, 5, SAY, 1, 0, 0);
        due("put leaves THE TRIAL", code.size(1, 5), 1);
    }

    private static void promise2PutOrder() {
        DeadCode code = new DeadCode();
        due("member -1", code.put(-1, SET, 0, 0, 0), UNKNOWN);
        due("member 8", code.put(8, SET, 0, 0, 0), UNKNOWN);
        due("kind -1", code.put(0, -1, 0, 0, 0), UNKNOWN);
        due("kind 13", code.put(0, 13, 0, 0, 0), UNKNOWN);
        due("kind MIN", code.put(0, MIN, 0, 0, 0), UNKNOWN);
        due("kind MAX", code.put(0, MAX, 0, 0, 0), UNKNOWN);
        for (int kind = 0; kind < 13; kind++) {
            int want = kind == GO ? OUTSIDE : UNKNOWN;
            due("a = -1 of kind " + kind, code.put(0, kind, -1, 0, 0), want);
            due("a = 25 of kind " + kind, code.put(0, kind, 25, 0, 0), want);
            due("a = 4 of kind " + kind, code.put(1, kind, 4, 0, 0), kind == GO ? 0 : UNKNOWN);
        }
        for (int kind : new int[] {MOVE, ADD, TIMES, DIV, IF, LOAD, STORE}) {
            due("b = 4 of kind " + kind, code.put(0, kind, 0, 4, 0), UNKNOWN);
            due("b = -1 of kind " + kind, code.put(0, kind, 0, -1, 0), UNKNOWN);
        }
        for (int kind : new int[] {ADD, TIMES, DIV}) {
            due("c = 4 of kind " + kind, code.put(0, kind, 0, 0, 4), UNKNOWN);
            due("c = -1 of kind " + kind, code.put(0, kind, 0, 0, -1), UNKNOWN);
        }
        due("CALL of 8", code.put(0, CALL, 0, 8, 0), UNKNOWN);
        due("CALL of -1", code.put(0, CALL, 0, -1, 0), UNKNOWN);
        due("IF to 25", code.put(0, IF, 0, 0, 25), OUTSIDE);
        due("IF to -1", code.put(0, IF, 0, 0, -1), OUTSIDE);
        due("IF of register 4 to 25", code.put(0, IF, 0, 4, 25), UNKNOWN);
        due("nothing was put", code.size(0, 0), 0);
        for (int place = 0; place < 24; place++) {
            put(code, SAY, 0, 0, 0);
        }
        due("UNKNOWN ahead of FULL", code.put(0, SAY, 4, 0, 0), UNKNOWN);
        due("OUTSIDE ahead of FULL", code.put(0, GO, 25, 0, 0), OUTSIDE);
        due("FULL", code.put(0, GO, 24, 0, 0), FULL);
    }

    private static void promise3Cut() {
        DeadCode code = new DeadCode();
        put(code, 3, SET, 0, 1, 0);
        put(code, 3, GIVE, 0, 0, 0);
        put(code, 4, SAY, 0, 0, 0);
        code.root(3, true);
        code.trial();
        due("cut", code.cut(3), 2);
        due("cut again", code.cut(3), 0);
        due("size behind a cut", code.size(0, 3), 0);
        due("the others stay", code.size(0, 4), 1);
        due("THE TRIAL stays", code.size(1, 3), 2);
        due("the ROOT stays", code.used(3), 1);
        due("THE TRIAL still runs", code.run(1, 3, 0, 0), 0);
        due("THE TRIAL still gives", code.told(0), 1);
        due("put behind a cut", code.put(3, SAY, 0, 0, 0), 0);
        due("cut -1", code.cut(-1), UNKNOWN);
        due("cut 8", code.cut(8), UNKNOWN);
    }

    private static void promise4Root() {
        DeadCode code = new DeadCode();
        due("off, as it was", code.root(7, false), 0);
        due("on", code.root(7, true), 1);
        due("on, as it was", code.root(7, true), 0);
        due("a root is used", code.used(7), 1);
        due("off", code.root(7, false), 1);
        due("no root is not used", code.used(7), 0);
        due("root -1", code.root(-1, true), UNKNOWN);
        due("root 8", code.root(8, false), UNKNOWN);
        due("two roots: 1", code.root(1, true), 1);
        due("two roots: 2", code.root(2, true), 1);
        due("first stays a root", code.used(1), 1);
    }

    private static void promise5Trial() {
        DeadCode code = new DeadCode();
        code.root(0, true);
        put(code, 0, CALL, 2, 1, 0);
        put(code, 0, GIVE, 2, 0, 0);
        put(code, 0, CALL, 2, 2, 0);
        put(code, 1, LOAD, 0, 1, 0);
        put(code, 1, GIVE, 1, 0, 0);
        put(code, 2, SAY, 0, 0, 0);
        put(code, 2, SAY, 0, 0, 0);
        due("trial", code.trial(), 4);
        due("size of 0 there", code.size(1, 0), 2);
        due("size of 1 there", code.size(1, 1), 1);
        due("2 is called where none comes", code.size(1, 2), 0);
        due("the program stays", code.size(0, 2), 2);
        dueTrialPart(code, 0, 0, CALL, 2, 1, 0);
        dueTrialPart(code, 1, 0, GIVE, 1, 0, 0);
        code.root(2, true);
        due("THE TRIAL is as it was made", code.size(1, 2), 0);
        due("trial anew", code.trial(), 2);
        due("2 is used now", code.size(1, 2), 2);
        code.root(2, false);
        code.root(0, false);
        due("trial without roots", code.trial(), 7);
        due("none is there", code.size(1, 0), 0);
    }

    private static void promise5TrialAgainAndAgain() {
        DeadCode code = new DeadCode();
        code.root(0, true);
        put(code, SET, 2, 6, 0);
        put(code, MOVE, 3, 2, 0);
        put(code, ADD, 2, 3, 3);
        put(code, TIMES, 3, 2, 2);
        put(code, GIVE, 0, 0, 0);
        dueMarks(code, 0, 1, 1, 1, 9, 1);
        due("one round uncovers the next", code.trial(), 4);
        dueTrialPart(code, 0, 0, GIVE, 0, 0, 0);

        DeadCode jump = new DeadCode();
        jump.root(0, true);
        put(jump, SET, 2, 1, 0);
        put(jump, IF, 3, 2, 2);
        put(jump, SAY, 0, 0, 0);
        dueMarks(jump, 0, 1, 3, 1);
        due("an IF that is GO reads nothing", jump.trial(), 1);
        dueTrialPart(jump, 0, 0, GO, 1, 0, 0);
        dueTrialPart(jump, 0, 1, SAY, 0, 0, 0);

        DeadCode check = new DeadCode();
        check.root(0, true);
        put(check, SET, 2, 5, 0);
        put(check, CHECK, 2, 0, 0);
        put(check, IF, 2, 3, 0);
        put(check, SAY, 1, 0, 0);
        dueMarks(check, 0, 1, 17, 5, 1);
        due("a check that can't fail goes, then what it read", check.trial(), 3);
        dueTrialPart(check, 0, 0, SAY, 1, 0, 0);
    }

    private static void promise5TrialPlaces() {
        DeadCode code = new DeadCode();
        code.root(0, true);
        put(code, LOAD, 2, 0, 0);
        put(code, IF, 0, 1, 5);
        put(code, LOAD, 3, 0, 0);
        put(code, SAY, 0, 0, 0);
        put(code, IF, 1, 0, 24);
        put(code, SAY, 1, 0, 0);
        put(code, GO, 2, 0, 0);
        due("two LOADs are idle", code.trial(), 2);
        dueTrialPart(code, 0, 0, IF, 0, 1, 3);
        dueTrialPart(code, 0, 1, SAY, 0, 0, 0);
        dueTrialPart(code, 0, 2, IF, 1, 0, 5);
        dueTrialPart(code, 0, 3, SAY, 1, 0, 0);
        dueTrialPart(code, 0, 4, GO, 1, 0, 0);
        due("part of THE END there", code.part(1, 0, 5, 0), UNKNOWN);

        DeadCode end = new DeadCode();
        end.root(0, true);
        put(end, GO, 20, 0, 0);
        due("nothing is taken out", end.trial(), 0);
        dueTrialPart(end, 0, 0, GO, 1, 0, 0);
        due("the program stays", end.part(0, 0, 0, 1), 20);

        DeadCode taken = new DeadCode();
        taken.root(0, true);
        put(taken, SET, 2, -1, 0);
        put(taken, IF, 2, 3, 3);
        put(taken, SAY, 0, 0, 0);
        put(taken, SAY, 2, 0, 0);
        due("what an IF jumps over goes", taken.trial(), 1);
        dueTrialPart(taken, 0, 0, SET, 2, -1, 0);
        dueTrialPart(taken, 0, 1, GO, 2, 0, 0);
        dueTrialPart(taken, 0, 2, SAY, 2, 0, 0);
    }

    private static void promise6RunKinds() {
        DeadCode code = new DeadCode();
        put(code, 0, ADD, 2, 0, 1);
        put(code, 0, GIVE, 2, 0, 0);
        dueRun(code, 0, 3, 4, 0, 7);
        dueRun(code, 0, MAX, 1, 0, MIN);
        put(code, 1, TIMES, 0, 0, 1);
        put(code, 1, GIVE, 0, 0, 0);
        dueRun(code, 1, -3, 4, 0, -12);
        dueRun(code, 1, 1 << 16, 1 << 16, 0, 0);
        put(code, 2, DIV, 3, 0, 1);
        put(code, 2, GIVE, 3, 0, 0);
        dueRun(code, 2, -7, 2, 0, -3);
        dueRun(code, 2, MIN, -1, 0, MIN);
        dueRun(code, 2, 7, 0, 1, 0);
        put(code, 3, IF, 0, 1, 3);
        put(code, 3, SET, 2, 10, 0);
        put(code, 3, GIVE, 2, 0, 0);
        put(code, 3, MOVE, 2, 1, 0);
        put(code, 3, GO, 2, 0, 0);
        dueRun(code, 3, 1, 2, 0, 2);
        dueRun(code, 3, 2, 2, 0, 10);
        dueRun(code, 3, MIN, MAX, 0, MAX);
        put(code, 4, STORE, 0, 3, 0);
        put(code, 4, CALL, 1, 5, 0);
        put(code, 4, GIVE, 1, 0, 0);
        put(code, 5, LOAD, 2, 3, 0);
        put(code, 5, SET, 0, 1, 0);
        put(code, 5, TIMES, 2, 2, 1);
        put(code, 5, GIVE, 2, 0, 0);
        dueRun(code, 4, 6, 7, 0, 42);
        dueRun(code, 5, 6, 7, 0, 0);
        put(code, 6, SET, 0, 9, 0);
        put(code, 6, GO, 24, 0, 0);
        dueRun(code, 6, 1, 2, 0, 0);
        put(code, 7, SAY, 2, 0, 0);
        put(code, 7, CALL, 0, 6, 0);
        put(code, 7, GIVE, 0, 0, 0);
        dueRun(code, 7, 5, 5, 0, 0);
    }

    private static void promise6RunEndings() {
        DeadCode code = new DeadCode();
        for (int m = 0; m < 7; m++) {
            put(code, m, CALL, 2, m + 1, 0);
            put(code, m, GIVE, 2, 0, 0);
        }
        put(code, 7, GIVE, 1, 0, 0);
        dueRun(code, 0, 1, 55, 0, 55);
        due("8 within one another", code.told(1), 15);
        code.cut(7);
        put(code, 7, CALL, 2, 6, 0);
        dueRun(code, 0, 1, 55, 3, 0);
        due("the CALL counts", code.told(1), 8);

        DeadCode loop = new DeadCode();
        put(loop, 0, IF, 2, 0, 2);
        put(loop, 0, GIVE, 1, 0, 0);
        put(loop, 0, SET, 3, 1, 0);
        put(loop, 0, ADD, 2, 2, 3);
        put(loop, 0, GO, 0, 0, 0);
        dueRun(loop, 0, 499, 8, 0, 8);
        due("4 each time", loop.told(1), 1998);
        dueRun(loop, 0, 500, 8, 4, 0);
        due("2000 are done", loop.told(1), 2000);

        DeadCode last = new DeadCode();
        put(last, 0, IF, 2, 0, 2);
        put(last, 0, GO, 24, 0, 0);
        put(last, 0, SET, 3, 1, 0);
        put(last, 0, ADD, 2, 2, 3);
        put(last, 0, GO, 0, 0, 0);
        for (int i = 0; i < 2; i++) {
            put(last, 1, SET, 2, 0, 0);
        }
        put(last, 1, CALL, 2, 0, 0);
        dueRun(last, 1, 498, 0, 0, 0);
        due("3 and 1994", last.told(1), 1997);
        put(last, 1, SET, 2, 0, 0);
        put(last, 1, SET, 2, 0, 0);
        put(last, 1, SET, 2, 0, 0);
        dueRun(last, 1, 498, 0, 0, 0);
        due("THE END comes behind the 2000th", last.told(1), 2000);
        put(last, 1, DIV, 2, 2, 3);
        dueRun(last, 1, 498, 0, 4, 0);
        due("the 2001st does nothing", last.told(1), 2000);

        DeadCode check = new DeadCode();
        put(check, CHECK, 0, 0, 0);
        put(check, GIVE, 0, 0, 0);
        dueRun(check, 0, -4, 0, 0, -4);
        dueRun(check, 0, 0, 3, 2, 0);
        due("the CHECK counts", check.told(1), 1);
    }

    private static void promise6RunRefused() {
        DeadCode code = new DeadCode();
        put(code, GIVE, 0, 0, 0);
        due("no TRIAL", code.run(1, 0, 0, 0), STATE);
        due("which 2", code.run(2, 0, 0, 0), OUTSIDE);
        due("which -1", code.run(-1, 0, 0, 0), OUTSIDE);
        due("member 8", code.run(0, 8, 0, 0), UNKNOWN);
        due("UNKNOWN ahead of OUTSIDE", code.run(2, -1, 0, 0), UNKNOWN);
        due("UNKNOWN ahead of STATE", code.run(1, 8, 0, 0), UNKNOWN);
        dueRun(code, 0, 6, 0, 0, 6);
        code.run(1, 0, 0, 0);
        code.run(0, 9, 0, 0);
        due("a refused run changes nothing", code.told(0), 6);
        code.trial();
        due("of THE TRIAL, where 0 is not used", code.run(1, 0, 6, 0), 0);
        due("it has no instructions there", code.told(0), 0);
        due("none was done", code.told(1), 0);
    }

    private static void promise6RunAnew() {
        DeadCode code = new DeadCode();
        put(code, 0, CALL, 0, 1, 0);
        put(code, 0, CALL, 0, 1, 0);
        put(code, 1, SAY, 2, 0, 0);
        put(code, 1, SAY, 3, 0, 0);
        put(code, 1, SET, 2, 8, 0);
        put(code, 1, SET, 3, 9, 0);
        for (int i = 0; i < 2; i++) {
            dueRun(code, 0, 1, 1, 0, 0);
            for (int said = 0; said < 4; said++) {
                due("2 and 3 are 0 in each that is called", code.said(said), 0);
            }
        }
        put(code, 2, SAY, 0, 0, 0);
        put(code, 2, STORE, 0, 1, 0);
        put(code, 2, CALL, 2, 3, 0);
        put(code, 3, CHECK, 2, 0, 0);
        put(code, 3, SAY, 1, 0, 0);
        put(code, 4, LOAD, 0, 1, 0);
        put(code, 4, GIVE, 0, 0, 0);
        dueRun(code, 2, 7, 7, 2, 0);
        dueRun(code, 4, 7, 7, 0, 0);
        due("the one that failed leaves nothing behind", code.told(1), 2);
        due("nor anything said", code.told(2), 0);
    }

    private static void promise7Told() {
        DeadCode code = new DeadCode();
        for (int f = 0; f < 4; f++) {
            put(code, 0, STORE, 0, f, 0);
            put(code, 0, ADD, 0, 0, 1);
        }
        put(code, 0, SAY, 0, 0, 0);
        put(code, 0, SAY, 1, 0, 0);
        put(code, 0, GIVE, 0, 0, 0);
        code.run(0, 0, 10, 3);
        long[] want = {22, 11, 2, 10, 13, 16, 19};
        for (int what = 0; what < 7; what++) {
            due("told " + what, code.told(what), want[what]);
        }
        due("told 7", code.told(7), OUTSIDE);
        due("told -1", code.told(-1), OUTSIDE);
        due("told MAX", code.told(MAX), OUTSIDE);
        due("told MIN", code.told(MIN), OUTSIDE);
        put(code, 1, STORE, 1, 2, 0);
        put(code, 1, SAY, 1, 0, 0);
        put(code, 1, CHECK, 2, 0, 0);
        due("a run that fails", code.run(0, 1, 10, -3), 2);
        long[] then = {0, 3, 1, 0, 0, -3, 0};
        for (int what = 0; what < 7; what++) {
            due("told " + what + " of the later one", code.told(what), then[what]);
        }
        code.cut(1);
        code.trial();
        due("calls that are no RUN leave it", code.told(5), -3);
    }

    private static void promise8Said() {
        DeadCode code = new DeadCode();
        put(code, SAY, 2, 0, 0);
        put(code, SET, 3, 1, 0);
        put(code, ADD, 2, 2, 3);
        put(code, IF, 2, 0, 0);
        code.run(0, 0, 59, 0);
        due("59 times", code.told(2), 59);
        due("said 58", code.said(58), 58);
        due("said 59, that is none", code.said(59), 0);
        code.run(0, 0, 100, 0);
        due("100 times", code.told(2), 100);
        for (int i = 0; i < 60; i++) {
            due("said " + i, code.said(i), i);
        }
        due("beyond the first 60", code.said(60), 0);
        due("the last one", code.said(99), 0);
        due("said -1", code.said(-1), 0);
        due("said MAX", code.said(MAX), 0);
        due("said MIN", code.said(MIN), 0);
        code.run(0, 0, 2, 0);
        due("of the latest RUN alone", code.said(2), 0);
        due("said 1", code.said(1), 1);
        put(code, 1, SAY, 0, 0, 0);
        put(code, 1, CALL, 2, 2, 0);
        put(code, 1, SAY, 2, 0, 0);
        put(code, 2, SAY, 1, 0, 0);
        put(code, 2, GIVE, 1, 0, 0);
        code.run(0, 1, MIN, -8);
        due("in its order: 0", code.said(0), MIN);
        due("in its order: 1", code.said(1), -8);
        due("in its order: 2", code.said(2), -8);
    }

    private static void promise9Marks() {
        DeadCode code = new DeadCode();
        put(code, SET, 2, 4, 0);
        put(code, DIV, 3, 0, 2);
        put(code, DIV, 3, 0, 1);
        put(code, LOAD, 3, 1, 0);
        put(code, CALL, 3, 1, 0);
        put(code, IF, 0, 2, 7);
        put(code, CHECK, 0, 0, 0);
        put(code, CHECK, 2, 0, 0);
        put(code, IF, 2, 2, 0);
        put(code, STORE, 0, 0, 0);
        put(code, GIVE, 0, 0, 0);
        put(code, SAY, 0, 0, 0);
        dueMarks(code, 0, 1, 9, 1, 9, 1, 1, 1, 17, 5, 1, 1, 0);
        due("marks of member 8", code.marks(8, 0), UNKNOWN);
        due("marks of member -1", code.marks(-1, 0), UNKNOWN);
        due("marks of place -1", code.marks(0, -1), UNKNOWN);
        due("marks of an empty member", code.marks(1, 0), UNKNOWN);

        DeadCode fails = new DeadCode();
        put(fails, MOVE, 0, 1, 0);
        put(fails, TIMES, 1, 1, 1);
        put(fails, ADD, 3, 3, 3);
        put(fails, CHECK, 2, 0, 0);
        put(fails, SAY, 0, 0, 0);
        dueMarks(fails, 0, 9, 9, 9, 1, 0);

        DeadCode zero = new DeadCode();
        put(zero, DIV, 0, 0, 3);
        put(zero, SAY, 0, 0, 0);
        dueMarks(zero, 0, 1, 0);
    }

    private static void promise10Known() {
        DeadCode code = new DeadCode();
        put(code, SET, 0, MIN, 0);
        put(code, SET, 1, -1, 0);
        put(code, DIV, 2, 0, 1);
        put(code, TIMES, 3, 0, 0);
        put(code, ADD, 1, 1, 0);
        put(code, MOVE, 0, 1, 0);
        put(code, LOAD, 1, 0, 0);
        put(code, CALL, 2, 0, 0);
        put(code, TIMES, 3, 3, 1);
        put(code, SAY, 0, 0, 0);
        long[][] want = {
            {ANY, ANY, 0, 0}, {MIN, ANY, 0, 0}, {MIN, -1, 0, 0}, {MIN, -1, MIN, 0}, {MIN, -1, MIN, 0},
            {MIN, MAX, MIN, 0}, {MAX, MAX, MIN, 0}, {MAX, ANY, MIN, 0}, {MAX, ANY, ANY, 0}, {MAX, ANY, ANY, ANY},
        };
        for (int place = 0; place < want.length; place++) {
            for (int r = 0; r < 4; r++) {
                due("known " + place + " " + r, code.known(0, place, r), want[place][r]);
            }
        }
        due("known of THE END", code.known(0, 10, 0), UNKNOWN);
        due("known of place -1", code.known(0, -1, 0), UNKNOWN);
        due("known of register 4", code.known(0, 0, 4), UNKNOWN);
        due("known of register -1", code.known(0, 0, -1), UNKNOWN);
        due("known of member 8", code.known(8, 0, 0), UNKNOWN);
        due("known of member -1", code.known(-1, 0, 0), UNKNOWN);
        due("known of an empty member", code.known(1, 0, 0), UNKNOWN);
    }

    private static void promise10KnownWays() {
        DeadCode same = new DeadCode();
        put(same, IF, 0, 1, 4);
        put(same, SET, 2, 7, 0);
        put(same, SET, 3, 1, 0);
        put(same, GO, 6, 0, 0);
        put(same, SET, 2, 7, 0);
        put(same, SET, 3, 2, 0);
        put(same, SAY, 2, 0, 0);
        due("both ways bring 7", same.known(0, 6, 2), 7);
        due("the ways bring 1 and 2", same.known(0, 6, 3), ANY);

        DeadCode begin = new DeadCode();
        put(begin, SAY, 2, 0, 0);
        put(begin, SET, 2, 1, 0);
        put(begin, SET, 0, 5, 0);
        put(begin, GO, 0, 0, 0);
        due("a loop brings 1 to THE BEGIN, too", begin.known(0, 0, 2), ANY);
        due("ANY stays ANY", begin.known(0, 0, 0), ANY);
        due("3 is 0 on all ways", begin.known(0, 0, 3), 0);

        DeadCode most = new DeadCode();
        put(most, IF, 2, 3, 3);
        put(most, IF, 0, 1, 0);
        put(most, GIVE, 2, 0, 0);
        put(most, SET, 2, 1, 0);
        put(most, GO, 0, 0, 0);
        due("a way that is never gone brings nothing", most.known(0, 0, 2), 0);
        due("it is not REACHED", most.known(0, 3, 2), NOT_REACHED);
        dueMarks(most, 0, 5, 1, 1, 0, 0);

        DeadCode late = new DeadCode();
        put(late, IF, 2, 3, 5);
        put(late, SET, 3, 1, 0);
        put(late, GO, 0, 0, 0);
        put(late, SAY, 0, 0, 0);
        put(late, SAY, 0, 0, 0);
        put(late, SAY, 1, 0, 0);
        due("the loop changes what the IF compares", late.known(0, 0, 3), ANY);
        dueMarks(late, 0, 1, 1, 1, 0, 0, 1);

        DeadCode alone = new DeadCode();
        put(alone, IF, 0, 0, 2);
        put(alone, SET, 2, 3, 0);
        put(alone, SAY, 2, 0, 0);
        due("IF of one ANY register goes both ways", alone.known(0, 2, 2), ANY);
        put(alone, 1, TIMES, 0, 0, 2);
        put(alone, 1, SAY, 0, 0, 0);
        due("ANY times 0 is ANY", alone.known(1, 1, 0), ANY);
        put(alone, 2, DIV, 3, 0, 2);
        put(alone, 2, SAY, 0, 0, 0);
        due("ANY by 0: no way goes on", alone.known(2, 1, 0), NOT_REACHED);
        put(alone, 3, CHECK, 3, 0, 0);
        put(alone, 3, SAY, 0, 0, 0);
        due("CHECK of 0: no way goes on", alone.known(3, 1, 0), NOT_REACHED);
        put(alone, 4, GIVE, 3, 0, 0);
        put(alone, 4, SAY, 0, 0, 0);
        due("GIVE: no way goes on", alone.known(4, 1, 0), NOT_REACHED);
        put(alone, 5, CHECK, 0, 0, 0);
        put(alone, 5, SAY, 0, 0, 0);
        due("CHECK teaches nothing", alone.known(5, 1, 0), ANY);
    }

    private static void dueRead(DeadCode code, int member, int place, int... want) {
        for (int r = 0; r < 4; r++) {
            due("read " + member + " " + place + " " + r, code.read(member, place, r), want[r]);
        }
    }

    private static void promise11Read() {
        DeadCode code = new DeadCode();
        put(code, SAY, 3, 0, 0);
        put(code, ADD, 2, 2, 0);
        put(code, CALL, 0, 0, 0);
        put(code, STORE, 2, 0, 0);
        put(code, GIVE, 0, 0, 0);
        put(code, SAY, 3, 0, 0);
        dueRead(code, 0, 0, 1, 1, 1, 0);
        dueRead(code, 0, 1, 1, 1, 1, 0);
        dueRead(code, 0, 2, 1, 0, 1, 0);
        dueRead(code, 0, 3, 1, 0, 0, 0);
        dueRead(code, 0, 4, 0, 0, 0, 0);
        dueRead(code, 0, 5, 0, 0, 0, 0);
        due("read of THE END", code.read(0, 6, 0), UNKNOWN);
        due("read of place -1", code.read(0, -1, 0), UNKNOWN);
        due("read of register 4", code.read(0, 0, 4), UNKNOWN);
        due("read of register -1", code.read(0, 0, -1), UNKNOWN);
        due("read of member 8", code.read(8, 0, 0), UNKNOWN);
        due("read of member -1", code.read(-1, 0, 0), UNKNOWN);

        DeadCode ways = new DeadCode();
        put(ways, SET, 2, 1, 0);
        put(ways, IF, 3, 2, 3);
        put(ways, SAY, 0, 0, 0);
        put(ways, CHECK, 2, 0, 0);
        put(ways, LOAD, 3, 0, 0);
        put(ways, DIV, 1, 1, 3);
        put(ways, IF, 3, 1, 4);
        dueRead(ways, 0, 0, 0, 1, 1, 1);
        dueRead(ways, 0, 1, 0, 1, 1, 0);
        dueRead(ways, 0, 2, 0, 0, 0, 0);
        dueRead(ways, 0, 3, 0, 1, 0, 0);
        dueRead(ways, 0, 4, 0, 1, 0, 1);
        dueRead(ways, 0, 5, 0, 1, 0, 1);
        dueRead(ways, 0, 6, 0, 1, 0, 0);

        DeadCode stops = new DeadCode();
        put(stops, SAY, 0, 0, 0);
        put(stops, DIV, 2, 1, 3);
        put(stops, SAY, 0, 0, 0);
        dueRead(stops, 0, 0, 0, 1, 0, 1);
        dueRead(stops, 0, 1, 0, 0, 0, 0);
    }

    private static void promise11ReadOrSet() {
        int[][] setting = {{SET, 2, 3, 0}, {MOVE, 2, 0, 0}, {ADD, 2, 0, 1}, {TIMES, 2, 0, 1}, {DIV, 2, 0, 1},
            {LOAD, 2, 3, 0}, {CALL, 2, 3, 0}};
        for (int[] one : setting) {
            DeadCode code = new DeadCode();
            put(code, SAY, 0, 0, 0);
            put(code, one[0], one[1], one[2], one[3]);
            put(code, SAY, 2, 0, 0);
            due("set ahead of being read by kind " + one[0], code.read(0, 0, 2), 0);
            due("read behind kind " + one[0], code.read(0, 1, 2), 1);
        }
        int[][] reading = {{MOVE, 0, 2, 0}, {MOVE, 2, 2, 0}, {ADD, 2, 2, 0}, {ADD, 2, 0, 2}, {TIMES, 0, 2, 0},
            {TIMES, 0, 0, 2}, {DIV, 2, 2, 0}, {DIV, 0, 0, 2}, {IF, 2, 0, 9}, {IF, 0, 2, 9}, {STORE, 2, 0, 0},
            {GIVE, 2, 0, 0}, {CHECK, 2, 0, 0}, {SAY, 2, 0, 0}};
        for (int[] one : reading) {
            DeadCode code = new DeadCode();
            put(code, SAY, 0, 0, 0);
            put(code, one[0], one[1], one[2], one[3]);
            due("read by kind " + one[0], code.read(0, 0, 2), 1);
            due("3 is not", code.read(0, 0, 3), 0);
        }
        DeadCode code = new DeadCode();
        put(code, 0, SAY, 0, 0, 0);
        put(code, 0, SAY, 2, 0, 0);
        put(code, 1, GO, 0, 0, 0);
        due("read in member 0", code.read(0, 0, 2), 1);
        due("not read in the loop of member 1", code.read(1, 0, 2), 0);
    }

    private static void promise12Used() {
        DeadCode code = new DeadCode();
        put(code, 5, CALL, 0, 3, 0);
        put(code, 3, CALL, 0, 1, 0);
        put(code, 3, GIVE, 0, 0, 0);
        put(code, 3, CALL, 0, 6, 0);
        put(code, 1, CALL, 0, 5, 0);
        put(code, 2, CALL, 0, 0, 0);
        for (int m = 0; m < 8; m++) {
            due("without roots: used " + m, code.used(m), 0);
        }
        code.root(5, true);
        int[] want = {0, 1, 0, 1, 0, 1, 0, 0};
        for (int m = 0; m < 8; m++) {
            due("used " + m, code.used(m), want[m]);
        }
        code.root(5, false);
        code.root(7, true);
        due("one that only they call", code.used(3), 0);
        due("an empty root", code.used(7), 1);
        due("used 8", code.used(8), UNKNOWN);
        due("used -1", code.used(-1), UNKNOWN);
    }

    private static void promise13Field() {
        DeadCode code = new DeadCode();
        put(code, 0, LOAD, 2, 0, 0);
        put(code, 0, STORE, 2, 1, 0);
        put(code, 0, CALL, 2, 1, 0);
        put(code, 0, GIVE, 2, 0, 0);
        put(code, 0, STORE, 2, 0, 0);
        put(code, 1, LOAD, 3, 2, 0);
        put(code, 1, STORE, 0, 2, 0);
        put(code, 2, LOAD, 3, 3, 0);
        put(code, 2, STORE, 3, 3, 0);
        for (int f = 0; f < 4; f++) {
            due("without roots: field " + f, code.field(f), 0);
        }
        code.root(0, true);
        int[] want = {1, 2, 3, 0};
        for (int f = 0; f < 4; f++) {
            due("field " + f, code.field(f), want[f]);
        }
        code.root(2, true);
        due("field 3", code.field(3), 3);
        code.root(2, false);
        due("field 3 without its root", code.field(3), 0);
        code.root(0, false);
        due("field 0 without its root", code.field(0), 0);
        DeadCode chain = new DeadCode();
        for (int m = 0; m < 7; m++) {
            put(chain, m, CALL, 0, m + 1, 0);
        }
        put(chain, 7, STORE, 0, 2, 0);
        chain.root(0, true);
        due("all are used, one through another", chain.used(7), 1);
        due("the field of the last one", chain.field(2), 2);
        due("field 4", code.field(4), UNKNOWN);
        due("field -1", code.field(-1), UNKNOWN);
    }

    private static void promise14Doubled() {
        DeadCode code = new DeadCode();
        put(code, 1, ADD, 3, 2, 0);
        put(code, 1, STORE, 3, 2, 0);
        put(code, 2, ADD, 2, 3, 0);
        put(code, 2, STORE, 2, 2, 0);
        put(code, 3, ADD, 2, 3, 0);
        put(code, 3, STORE, 2, 3, 0);
        put(code, 4, ADD, 2, 3, 0);
        put(code, 4, STORE, 3, 2, 0);
        put(code, 5, ADD, 2, 3, 1);
        put(code, 5, STORE, 2, 2, 0);
        int[] want = {0, 1, 1, 3, 4, 5, 0, 0};
        for (int m = 0; m < 8; m++) {
            due("doubled " + m, code.doubled(m), want[m]);
        }
        put(code, 0, ADD, 3, 2, 0);
        due("a longer one", code.doubled(1), 1);
        due("the least empty one", code.doubled(7), 6);
        put(code, 0, STORE, 3, 2, 77);
        due("the least of three", code.doubled(2), 0);
        due("itself", code.doubled(0), 0);
        due("doubled 8", code.doubled(8), UNKNOWN);
        due("doubled -1", code.doubled(-1), UNKNOWN);
        dueApart("numbers that look like registers", SET, new int[] {2, 3, 0}, new int[] {3, 2, 0}, 1);
        dueApart("numbers stay", SET, new int[] {2, 3, 0}, new int[] {3, 3, 0}, 0);
        dueApart("places stay", GO, new int[] {2, 0, 0}, new int[] {3, 0, 0}, 1);
        dueApart("places of IF", IF, new int[] {2, 0, 3}, new int[] {3, 0, 2}, 1);
        dueApart("places of IF stay", IF, new int[] {2, 0, 3}, new int[] {3, 0, 3}, 0);
        dueApart("members", CALL, new int[] {2, 2, 0}, new int[] {3, 3, 0}, 1);
        dueApart("fields", LOAD, new int[] {2, 2, 0}, new int[] {3, 3, 0}, 1);
        dueApart("0 and 1 are not renamed", SAY, new int[] {0, 0, 0}, new int[] {1, 0, 0}, 1);
        dueApart("2 and 3 are", SAY, new int[] {2, 0, 0}, new int[] {3, 0, 0}, 0);
        dueApart("one register, and two", MOVE, new int[] {2, 2, 0}, new int[] {2, 3, 0}, 1);
        dueApart("the first is named as c", ADD, new int[] {0, 1, 2}, new int[] {0, 1, 3}, 0);
        dueApart("the first is named as b", MOVE, new int[] {0, 2, 0}, new int[] {0, 3, 0}, 0);
        dueApart("what it has not", SAY, new int[] {2, 1, 1}, new int[] {2, 0, 9}, 0);
    }

    private static void promise14NamedFirst() {
        DeadCode code = new DeadCode();
        put(code, 0, SET, 0, 3, 0);
        put(code, 0, GO, 3, 0, 0);
        put(code, 0, SAY, 2, 0, 0);
        put(code, 1, SET, 0, 3, 0);
        put(code, 1, GO, 3, 0, 0);
        put(code, 1, SAY, 3, 0, 0);
        due("numbers and places name no register", code.doubled(1), 0);
        put(code, 2, SAY, 2, 0, 0);
        put(code, 2, SAY, 3, 0, 0);
        put(code, 3, SAY, 3, 0, 0);
        put(code, 3, SAY, 3, 0, 0);
        put(code, 4, SAY, 3, 0, 0);
        put(code, 4, SAY, 2, 0, 0);
        due("the other one is the other one", code.doubled(3), 3);
        due("both are renamed", code.doubled(4), 2);
    }

    private static void dueApart(String what, int kind, int[] one, int[] other, int want) {
        DeadCode code = new DeadCode();
        put(code, 0, kind, one[0], one[1], one[2]);
        put(code, 1, kind, other[0], other[1], other[2]);
        due("doubled: " + what, code.doubled(1), want);
    }

    private static void promise15Size() {
        DeadCode code = new DeadCode();
        put(code, 2, SET, 2, 1, 0);
        put(code, 2, SAY, 0, 0, 0);
        code.root(2, true);
        due("size", code.size(0, 2), 2);
        due("no TRIAL", code.size(1, 2), STATE);
        code.trial();
        due("size in THE TRIAL", code.size(1, 2), 1);
        due("size in the program", code.size(0, 2), 2);
        due("member 8", code.size(0, 8), UNKNOWN);
        due("member -1", code.size(1, -1), UNKNOWN);
        due("which 2", code.size(2, 0), OUTSIDE);
        due("which -1", code.size(-1, 0), OUTSIDE);
        due("UNKNOWN ahead of OUTSIDE", code.size(2, 8), UNKNOWN);
        code.clear();
        due("UNKNOWN ahead of STATE", code.size(1, 8), UNKNOWN);
    }

    private static void promise16Part() {
        DeadCode code = new DeadCode();
        int[][] has = {{1, 3}, {1, 3}, {1, 2, 3}, {1, 2, 3}, {1, 2, 3}, {1, 2, 3}, {1}, {1, 3}, {1, 3}, {1, 3},
            {1}, {1}, {1}};
        for (int kind = 0; kind < 13; kind++) {
            put(code, 3, kind, 1, has[kind].length == 2 ? 3 : 2, 3);
            due("KIND", code.part(0, 3, kind, 0), kind);
            for (int what = 1; what < 4; what++) {
                int want = what <= has[kind].length ? has[kind][what - 1] : 0;
                due("part " + what + " of kind " + kind, code.part(0, 3, kind, what), want);
            }
        }
        due("place behind the last", code.part(0, 3, 13, 0), UNKNOWN);
        due("place -1", code.part(0, 3, -1, 0), UNKNOWN);
        due("place MAX", code.part(0, 3, MAX, 0), UNKNOWN);
        due("member 8", code.part(0, 8, 0, 0), UNKNOWN);
        due("UNKNOWN member ahead of OUTSIDE", code.part(5, -1, 0, 9), UNKNOWN);
        due("which 2", code.part(2, 3, 0, 0), OUTSIDE);
        due("which -1", code.part(-1, 3, 0, 0), OUTSIDE);
        due("what 4", code.part(0, 3, 0, 4), OUTSIDE);
        due("what -1", code.part(0, 3, 0, -1), OUTSIDE);
        due("OUTSIDE ahead of STATE", code.part(1, 3, 0, 4), OUTSIDE);
        due("OUTSIDE ahead of the place", code.part(0, 3, 99, 4), OUTSIDE);
        due("STATE ahead of the place", code.part(1, 3, 99, 0), STATE);
        code.trial();
        due("a place that THE TRIAL has not", code.part(1, 3, 0, 0), UNKNOWN);
    }

    private static void promise17Clear() {
        DeadCode code = new DeadCode();
        put(code, 0, STORE, 0, 0, 0);
        put(code, 0, SAY, 0, 0, 0);
        put(code, 7, GIVE, 0, 0, 0);
        code.root(0, true);
        code.root(7, true);
        code.trial();
        code.run(0, 0, 4, 4);
        due("clear", code.clear(), 3);
        due("clear again", code.clear(), 0);
        for (int m = 0; m < 8; m++) {
            due("size behind a clear", code.size(0, m), 0);
            due("no ROOT behind a clear", code.used(m), 0);
            due("no TRIAL behind a clear", code.size(1, m), STATE);
            due("no TRIAL to run behind a clear", code.run(1, m, 0, 0), STATE);
        }
        for (int what = 0; what < 7; what++) {
            due("no RUN behind a clear", code.told(what), 0);
        }
        due("nothing said behind a clear", code.said(0), 0);
        due("put behind a clear", code.put(0, SAY, 0, 0, 0), 0);
        due("trial behind a clear", code.trial(), 1);
    }

    private static void fullMembers() {
        DeadCode code = new DeadCode();
        for (int m = 0; m < 8; m++) {
            for (int place = 0; place < 24; place++) {
                put(code, m, place == 23 ? IF : ADD, 2 + place % 2, 3 - place % 2, place == 23 ? 24 : 0);
            }
            code.root(m, true);
        }
        due("doubled when full", code.doubled(7), 0);
        due("known when full", code.known(7, 23, 3), ANY);
        due("read when full", code.read(7, 22, 2), 1);
        due("marks when full", code.marks(7, 23), 1);
        due("used when full", code.used(7), 1);
        due("trial when full", code.trial(), 0);
        due("run when full", code.run(1, 7, 1, 1), 0);
        due("all were done", code.told(1), 24);

        DeadCode chains = new DeadCode();
        for (int m = 0; m < 8; m++) {
            for (int place = 0; place < 24; place++) {
                put(chains, m, ADD, 2 + place % 2, 3 - place % 2, 0);
            }
            chains.root(m, true);
        }
        due("each round takes one more", chains.trial(), 192);
        due("none stays", chains.size(1, 7), 0);
        due("clear when full", chains.clear(), 192);

        DeadCode plain = new DeadCode();
        for (int place = 0; place < 48; place++) {
            put(plain, place % 2, SAY, 0, 0, 0);
        }
        due("doubled when full, without 2 and 3", plain.doubled(1), 0);
    }

    /** None of these calls has an answer but UNKNOWN or OUTSIDE, and none may throw. */
    private static void extremeNumbers() {
        DeadCode code = new DeadCode();
        put(code, SAY, 0, 0, 0);
        code.trial();
        for (int far : new int[] {MIN, MIN + 1, -1, 8, 25, 1 << 30, MAX - 1, MAX}) {
            due("put to " + far, code.put(far, SET, 0, 0, 0), UNKNOWN);
            due("cut of " + far, code.cut(far), UNKNOWN);
            due("root of " + far, code.root(far, true), UNKNOWN);
            due("run of " + far, code.run(0, far, far, far), UNKNOWN);
            due("run in " + far, code.run(far, 0, far, far), OUTSIDE);
            due("told of " + far, code.told(far), OUTSIDE);
            due("said of " + far, code.said(far), 0);
            due("marks of " + far, code.marks(far, 0), UNKNOWN);
            due("marks at " + far, code.marks(0, far), UNKNOWN);
            due("known of " + far, code.known(far, 0, 0), UNKNOWN);
            due("known at " + far, code.known(0, far, 0), UNKNOWN);
            due("known of register " + far, code.known(0, 0, far), UNKNOWN);
            due("read of " + far, code.read(far, 0, 0), UNKNOWN);
            due("read at " + far, code.read(0, far, 0), UNKNOWN);
            due("read of register " + far, code.read(0, 0, far), UNKNOWN);
            due("used of " + far, code.used(far), UNKNOWN);
            due("field " + far, code.field(far), UNKNOWN);
            due("doubled of " + far, code.doubled(far), UNKNOWN);
            due("size of " + far, code.size(1, far), UNKNOWN);
            due("size in " + far, code.size(far, 0), OUTSIDE);
            due("part of " + far, code.part(1, far, 0, 0), UNKNOWN);
            due("part in " + far, code.part(far, 0, 0, 0), OUTSIDE);
            due("part at " + far, code.part(0, 0, far, 0), UNKNOWN);
            due("part what " + far, code.part(0, 0, 0, far), OUTSIDE);
        }
        due("nothing has changed", code.clear(), 1);
    }
}
