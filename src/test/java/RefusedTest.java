import java.util.ArrayList;
import java.util.List;
import java.util.function.ToLongFunction;

/**
 * For each promise: the last numbers that are good and the first that are not, on both sides; the order in
 * which a call is refused; and that nothing changes behind a call that is refused, or that only asks.
 */
public final class RefusedTest extends Bench {
    private static final int[] NO_MEMBERS = {MIN, -1, 8, MAX};
    private static final int[] NO_PLACES = {MIN, -1, 24, 25, MAX};
    private static final int[] NO_REGISTERS = {MIN, -1, 4, MAX};
    private static final int[] NO_WHICH = {MIN, -1, 2, MAX};

    /** A call, and the answer that is due. */
    private record Call(String name, ToLongFunction<DeadCode> made, long want) {
    }

    private interface Scene {
        DeadCode make();
    }

    public static void main(String[] args) {
        promise1();
        promise2Ends();
        promise2Full();
        promise3();
        promise4();
        promise15();
        promise16();
        promise17();
        refusedIn("new", RefusedTest::fresh, refusedAlways(), refusedWithoutTrial(), refusedInEmpty());
        refusedIn("busy", RefusedTest::busy, refusedAlways(), refusedInBusy());
        refusedIn("busy without a TRIAL", RefusedTest::untried, refusedAlways(), refusedWithoutTrial());
        refusedIn("full", RefusedTest::full, refusedAlways(), refusedInFull());
        onlyAsk();
        checks.end("RefusedTest");
    }

    private static DeadCode fresh() {
        return new DeadCode();
    }

    private static DeadCode untried() {
        DeadCode code = code(row(SET, 2, 5), row(CALL, 3, 7), row(SAY, 3), row(IF, 0, 2, 24), row(GIVE, 3),
                row(SAY, 0));
        add(code, 7, row(STORE, 0, 1), row(LOAD, 2, 2), row(GIVE, 1));
        addTimes(code, 3, 24, row(SAY, 2));
        code.root(0, true);
        code.root(3, true);
        code.run(0, 0, 8, 9);
        return code;
    }

    /** Its TRIAL is of a former program, and its latest RUN of THE TRIAL. */
    private static DeadCode busy() {
        DeadCode code = untried();
        code.trial();
        add(code, 0, row(SAY, 1));
        add(code, 5, row(LOAD, 2, 3), row(GIVE, 2));
        code.root(3, false);
        code.root(5, true);
        code.run(1, 0, 11, -12);
        return code;
    }

    private static DeadCode full() {
        DeadCode code = new DeadCode();
        for (int m = 0; m < 8; m++) {
            addTimes(code, m, 23, row(SAY, m % 4));
            add(code, m, row(GIVE, 1));
            code.root(m, true);
        }
        code.trial();
        code.run(0, 1, 3, -4);
        return code;
    }

    private static Call call(String name, long want, ToLongFunction<DeadCode> made) {
        return new Call(name, made, want);
    }

    @SafeVarargs
    private static void refusedIn(String name, Scene scene, List<Call>... lists) {
        for (List<Call> list : lists) {
            for (Call one : list) {
                leavesAll(name, scene, one);
            }
        }
    }

    /** Compares all that can be asked behind the call with what is answered without it. */
    private static void leavesAll(String name, Scene scene, Call call) {
        List<ToLongFunction<DeadCode>> all = questions();
        // An object is used for 512 calls, so that the questions are asked of several.
        int atOnce = 250;
        for (int from = 0; from < all.size(); from += atOnce) {
            DeadCode before = scene.make();
            DeadCode behind = scene.make();
            due(name + ": " + call.name, call.made.applyAsLong(behind), call.want);
            for (int i = from; i < Math.min(all.size(), from + atOnce); i++) {
                due(name + ": question " + i + " behind " + call.name, all.get(i).applyAsLong(behind),
                        all.get(i).applyAsLong(before));
            }
        }
    }

    /** Every question whose answer may tell that something has changed. */
    private static List<ToLongFunction<DeadCode>> questions() {
        List<ToLongFunction<DeadCode>> all = new ArrayList<>();
        for (int n = -1; n < 61; n++) {
            int i = n;
            all.add(code -> code.said(i));
        }
        for (int n = 0; n < 7; n++) {
            int what = n;
            all.add(code -> code.told(what));
            all.add(code -> code.field(what));
        }
        for (int n = 0; n < 8; n++) {
            int m = n;
            all.add(code -> code.used(m));
            all.add(code -> code.doubled(m));
            all.add(code -> code.size(0, m));
            all.add(code -> code.size(1, m));
            for (int place = 0; place < 24; place++) {
                addQuestionsOf(all, m, place);
            }
        }
        all.add(DeadCode::trial);
        for (int n = 0; n < 8; n++) {
            int m = n;
            all.add(code -> code.size(1, m));
            all.add(code -> code.root(m, true));
        }
        all.add(DeadCode::clear);
        return all;
    }

    private static void addQuestionsOf(List<ToLongFunction<DeadCode>> all, int m, int place) {
        all.add(code -> code.marks(m, place));
        for (int n = 0; n < 4; n++) {
            int part = n;
            all.add(code -> code.part(0, m, place, part));
            all.add(code -> code.part(1, m, place, part));
            int r = n;
            all.add(code -> code.known(m, place, r));
            all.add(code -> code.read(m, place, r));
        }
    }

    /** What is refused whatever has come ahead of it. */
    private static List<Call> refusedAlways() {
        List<Call> all = new ArrayList<>();
        addRefusedPuts(all);
        for (int m : NO_MEMBERS) {
            all.add(call("cut " + m, UNKNOWN, code -> code.cut(m)));
            all.add(call("root on " + m, UNKNOWN, code -> code.root(m, true)));
            all.add(call("root off " + m, UNKNOWN, code -> code.root(m, false)));
            all.add(call("used " + m, UNKNOWN, code -> code.used(m)));
            all.add(call("doubled " + m, UNKNOWN, code -> code.doubled(m)));
            all.add(call("marks of member " + m, UNKNOWN, code -> code.marks(m, 0)));
            all.add(call("known of member " + m, UNKNOWN, code -> code.known(m, 0, 0)));
            all.add(call("read of member " + m, UNKNOWN, code -> code.read(m, 0, 0)));
            for (int which = -1; which < 3; which++) {
                addRefusedFor(all, which, m);
            }
        }
        for (int which : NO_WHICH) {
            all.add(call("run, which " + which, OUTSIDE, code -> code.run(which, 0, 7, 7)));
            all.add(call("size, which " + which, OUTSIDE, code -> code.size(which, 7)));
            all.add(call("part, which " + which, OUTSIDE, code -> code.part(which, 7, 0, 0)));
            all.add(call("part, which and what", OUTSIDE, code -> code.part(which, 7, 0, 4)));
            all.add(call("part, which and no place", OUTSIDE, code -> code.part(which, 7, 24, 0)));
        }
        for (int what : new int[] {MIN, -1, 4, MAX}) {
            all.add(call("part, what " + what, OUTSIDE, code -> code.part(0, 0, 0, what)));
            all.add(call("part of THE TRIAL, what " + what, OUTSIDE, code -> code.part(1, 0, 0, what)));
            all.add(call("part, what ahead of the place", OUTSIDE, code -> code.part(0, 0, -1, what)));
        }
        for (int what : new int[] {MIN, -1, 7, MAX}) {
            all.add(call("told " + what, OUTSIDE, code -> code.told(what)));
        }
        for (int f : NO_REGISTERS) {
            all.add(call("field " + f, UNKNOWN, code -> code.field(f)));
            all.add(call("known of register " + f, UNKNOWN, code -> code.known(0, 0, f)));
            all.add(call("read of register " + f, UNKNOWN, code -> code.read(0, 0, f)));
        }
        for (int place : NO_PLACES) {
            all.add(call("marks at " + place, UNKNOWN, code -> code.marks(3, place)));
            all.add(call("known at " + place, UNKNOWN, code -> code.known(3, place, 3)));
            all.add(call("read at " + place, UNKNOWN, code -> code.read(3, place, 3)));
            all.add(call("part at " + place, UNKNOWN, code -> code.part(0, 3, place, 3)));
        }
        return all;
    }

    /** UNKNOWN comes ahead of OUTSIDE and of STATE. */
    private static void addRefusedFor(List<Call> all, int which, int m) {
        all.add(call("run " + which + " " + m, UNKNOWN, code -> code.run(which, m, 7, 7)));
        all.add(call("size " + which + " " + m, UNKNOWN, code -> code.size(which, m)));
        all.add(call("part " + which + " " + m, UNKNOWN, code -> code.part(which, m, 0, 0)));
        all.add(call("part " + which + " " + m + ", what 4", UNKNOWN, code -> code.part(which, m, 99, 4)));
    }

    private static void addRefusedPuts(List<Call> all) {
        for (int m : NO_MEMBERS) {
            all.add(call("put to " + m, UNKNOWN, code -> code.put(m, SAY, 0, 0, 0)));
            all.add(call("put to " + m + ", place 25", UNKNOWN, code -> code.put(m, GO, 25, 0, 0)));
        }
        for (int kind : new int[] {MIN, -1, 13, MAX}) {
            all.add(call("put of kind " + kind, UNKNOWN, code -> code.put(1, kind, 0, 0, 0)));
            all.add(call("put of kind " + kind + ", all else wrong", UNKNOWN, code -> code.put(1, kind, 25, 25, 25)));
        }
        for (int kind = 0; kind < 13; kind++) {
            for (int part = 0; part < HAS[kind].length(); part++) {
                addRefusedParts(all, kind, part, HAS[kind].charAt(part));
            }
        }
        all.add(call("put, a 4 and place 25", UNKNOWN, code -> code.put(1, IF, 4, 0, 25)));
        all.add(call("put, b -1 and place -1", UNKNOWN, code -> code.put(1, IF, 0, -1, -1)));
    }

    private static void addRefusedParts(List<Call> all, int kind, int part, char has) {
        int[] wrong = has == 'n' ? new int[0] : has == 'p' ? new int[] {MIN, -1, 25, MAX}
                : has == 'm' ? NO_MEMBERS : NO_REGISTERS;
        for (int n : wrong) {
            int[] abc = new int[3];
            abc[part] = n;
            all.add(call("put of kind " + kind + ", part " + part + " " + n, has == 'p' ? OUTSIDE : UNKNOWN,
                    code -> code.put(1, kind, abc[0], abc[1], abc[2])));
        }
    }

    private static List<Call> refusedWithoutTrial() {
        List<Call> all = new ArrayList<>();
        for (int m = 0; m < 8; m++) {
            int member = m;
            all.add(call("run of no TRIAL " + m, STATE, code -> code.run(1, member, 7, 7)));
            all.add(call("size of no TRIAL " + m, STATE, code -> code.size(1, member)));
            all.add(call("part of no TRIAL " + m, STATE, code -> code.part(1, member, 0, 0)));
        }
        for (int place : NO_PLACES) {
            all.add(call("STATE ahead of the place", STATE, code -> code.part(1, 0, place, 3)));
        }
        return all;
    }

    private static List<Call> refusedInEmpty() {
        List<Call> all = new ArrayList<>();
        for (int m = 0; m < 8; m++) {
            int member = m;
            all.add(call("marks of an empty one", UNKNOWN, code -> code.marks(member, 0)));
            all.add(call("known of an empty one", UNKNOWN, code -> code.known(member, 0, 0)));
            all.add(call("read of an empty one", UNKNOWN, code -> code.read(member, 0, 0)));
            all.add(call("part of an empty one", UNKNOWN, code -> code.part(0, member, 0, 0)));
        }
        return all;
    }

    /** Member 0 has 7 instructions and 5 in THE TRIAL, where member 5 has none; member 3 has 24 in both. */
    private static List<Call> refusedInBusy() {
        List<Call> all = new ArrayList<>();
        all.add(call("marks of THE END", UNKNOWN, code -> code.marks(0, 7)));
        all.add(call("known of THE END", UNKNOWN, code -> code.known(0, 7, 0)));
        all.add(call("read of THE END", UNKNOWN, code -> code.read(0, 7, 0)));
        all.add(call("part of THE END", UNKNOWN, code -> code.part(0, 0, 7, 0)));
        all.add(call("part of THE TRIAL's END", UNKNOWN, code -> code.part(1, 0, 5, 0)));
        all.add(call("part of one that THE TRIAL has not", UNKNOWN, code -> code.part(1, 5, 0, 0)));
        all.add(call("the 25th of member 3", FULL, code -> code.put(3, SAY, 0, 0, 0)));
        all.add(call("part of place 24 of THE TRIAL", UNKNOWN, code -> code.part(1, 3, 24, 0)));
        return all;
    }

    private static List<Call> refusedInFull() {
        List<Call> all = new ArrayList<>();
        for (int m = 0; m < 8; m++) {
            int member = m;
            for (int kind = 0; kind < 13; kind++) {
                int of = kind;
                all.add(call("the 25th of " + m + ", kind " + kind, FULL, code -> code.put(member, of, 3, 3, 3)));
            }
            all.add(call("UNKNOWN ahead of FULL", UNKNOWN, code -> code.put(member, SAY, 4, 0, 0)));
            all.add(call("no kind ahead of FULL", UNKNOWN, code -> code.put(member, 13, 0, 0, 0)));
            all.add(call("OUTSIDE ahead of FULL", OUTSIDE, code -> code.put(member, IF, 0, 0, 25)));
            all.add(call("place 24", UNKNOWN, code -> code.part(1, member, 24, 0)));
        }
        all.add(call("GO 24 is good, but FULL", FULL, code -> code.put(0, GO, 24, 0, 0)));
        return all;
    }

    /** A good call that only asks leaves all as it is, too; so does a root that was so, and said of none. */
    private static void onlyAsk() {
        List<Call> all = new ArrayList<>();
        all.add(call("told 0", -12, code -> code.told(0)));
        all.add(call("said 0", -12, code -> code.said(0)));
        all.add(call("said -1", 0, code -> code.said(-1)));
        all.add(call("said 60", 0, code -> code.said(60)));
        all.add(call("marks", 9, code -> code.marks(7, 1)));
        all.add(call("known", 5, code -> code.known(0, 4, 2)));
        all.add(call("read", 1, code -> code.read(0, 2, 3)));
        all.add(call("used", 1, code -> code.used(7)));
        all.add(call("field", 2, code -> code.field(1)));
        all.add(call("doubled", 1, code -> code.doubled(6)));
        all.add(call("size", 7, code -> code.size(0, 0)));
        all.add(call("size of THE TRIAL", 5, code -> code.size(1, 0)));
        all.add(call("part", 24, code -> code.part(0, 0, 3, 3)));
        all.add(call("part of THE TRIAL", 5, code -> code.part(1, 0, 3, 3)));
        all.add(call("root, as it was", 0, code -> code.root(0, true)));
        all.add(call("no root, as it was", 0, code -> code.root(7, false)));
        all.add(call("cut of an empty one", 0, code -> code.cut(1)));
        refusedIn("busy", RefusedTest::busy, all);
    }

    private static void promise1() {
        DeadCode code = new DeadCode();
        for (int m = 0; m < 8; m++) {
            due("no INSTRUCTIONS of " + m, code.size(0, m), 0);
            due("no ROOT " + m, code.root(m, false), 0);
            due("not USED " + m, code.used(m), 0);
            due("no TRIAL of " + m, code.size(1, m), STATE);
        }
        for (int what = 0; what < 7; what++) {
            due("no RUN, told " + what, code.told(what), 0);
        }
        for (int f = 0; f < 4; f++) {
            due("no FIELD is known", code.field(f), 0);
        }
        due("nothing said", code.said(0), 0);
        due("clear of a new one", code.clear(), 0);
        DeadCode other = busy();
        due("one object", other.size(0, 0), 7);
        due("is not the other", code.size(0, 0), 0);
        due("nor its RUN", code.told(1), 0);
        due("nor its TRIAL", code.size(1, 0), STATE);
    }

    /** The least and the greatest numbers that are good, of each kind; what it has not is not looked at. */
    private static void promise2Ends() {
        for (int kind = 0; kind < 13; kind++) {
            int[] low = new int[4];
            int[] high = new int[4];
            low[0] = kind;
            high[0] = kind;
            int[] given = {MIN, MIN, MIN, MAX, MAX, MAX};
            for (int part = 0; part < HAS[kind].length(); part++) {
                char has = HAS[kind].charAt(part);
                low[1 + part] = has == 'n' ? MIN : 0;
                high[1 + part] = has == 'n' ? MAX : has == 'p' ? 24 : has == 'm' ? 7 : 3;
                given[part] = low[1 + part];
                given[3 + part] = high[1 + part];
            }
            DeadCode code = new DeadCode();
            due("the least of kind " + kind, code.put(0, kind, given[0], given[1], given[2]), 0);
            due("the greatest of kind " + kind, code.put(7, kind, given[3], given[4], given[5]), 0);
            due("once more", code.put(7, kind, given[3], given[4], given[5]), 1);
            dueParts("the least of kind " + kind, code, 0, 0, low);
            dueParts("the greatest of kind " + kind, code, 0, 7, high, high);
        }
    }

    private static void promise2Full() {
        DeadCode code = new DeadCode();
        for (int m = 0; m < 8; m++) {
            for (int place = 0; place < 24; place++) {
                due("put at " + place, code.put(m, SET, 3, 100 * m + place, 0), place);
            }
            due("the 25th", code.put(m, SET, 3, -1, 0), FULL);
            due("24 are there", code.size(0, m), 24);
        }
        for (int m = 0; m < 8; m++) {
            due("the first of " + m, code.part(0, m, 0, 2), 100 * m);
            due("the last of " + m, code.part(0, m, 23, 2), 100 * m + 23);
        }
        due("cut of a full one", code.cut(4), 24);
        due("it has room", code.put(4, SAY, 0, 0, 0), 0);
        due("the others have not", code.put(5, SAY, 0, 0, 0), FULL);
        due("clear", code.clear(), 7 * 24 + 1);
        for (int place = 0; place < 24; place++) {
            due("all have room", code.put(5, SAY, 0, 0, 0), place);
        }
        due("till they are full", code.put(5, SAY, 0, 0, 0), FULL);
    }

    private static void promise3() {
        for (int m = 0; m < 8; m++) {
            DeadCode code = full();
            due("cut of " + m, code.cut(m), 24);
            due("cut again", code.cut(m), 0);
            for (int other = 0; other < 8; other++) {
                due("size of " + other + " behind it", code.size(0, other), other == m ? 0 : 24);
                due("THE TRIAL stays", code.size(1, other), 24);
                due("ROOTS stay", code.used(other), 1);
            }
            due("the RUN stays", code.told(0), -4);
            due("put is at place 0 again", code.put(m, SAY, 0, 0, 0), 0);
            due("cut of one", code.cut(m), 1);
        }
    }

    private static void promise4() {
        DeadCode code = new DeadCode();
        for (int m = 0; m < 8; m++) {
            due("no ROOT, as it was", code.root(m, false), 0);
            due("a ROOT", code.root(m, true), 1);
            due("a ROOT, as it was", code.root(m, true), 0);
            for (int other = 0; other < 8; other++) {
                due("those till " + m, code.used(other), other <= m ? 1 : 0);
            }
        }
        for (int m = 0; m < 8; m++) {
            due("no ROOT", code.root(m, false), 1);
            due("no ROOT, as it was", code.root(m, false), 0);
            for (int other = 0; other < 8; other++) {
                due("those behind " + m, code.used(other), other <= m ? 0 : 1);
            }
        }
    }

    private static void promise15() {
        DeadCode code = busy();
        int[] program = {7, 0, 0, 24, 0, 2, 0, 3};
        int[] second = {5, 0, 0, 24, 0, 0, 0, 2};
        for (int m = 0; m < 8; m++) {
            due("size of " + m, code.size(0, m), program[m]);
            due("size of " + m + " in THE TRIAL", code.size(1, m), second[m]);
        }
    }

    private static void promise16() {
        DeadCode code = busy();
        dueParts("the program", code, 0, 0, row(SET, 2, 5), row(CALL, 3, 7), row(SAY, 3), row(IF, 0, 2, 24),
                row(GIVE, 3), row(SAY, 0), row(SAY, 1));
        dueParts("THE TRIAL", code, 1, 0, row(SET, 2, 5), row(CALL, 3, 7), row(SAY, 3), row(IF, 0, 2, 5),
                row(GIVE, 3));
        dueParts("the program's 7", code, 0, 7, row(STORE, 0, 1), row(LOAD, 2, 2), row(GIVE, 1));
        dueParts("THE TRIAL's 7", code, 1, 7, row(STORE, 0, 1), row(GIVE, 1));
        due("an int that looks like an answer", add(code, 1, row(SET, 0, OUTSIDE)).part(0, 1, 0, 2), OUTSIDE);
    }

    private static void promise17() {
        Scene[] scenes = {RefusedTest::fresh, RefusedTest::untried, RefusedTest::busy, RefusedTest::full};
        int[] had = {0, 33, 36, 192};
        for (int i = 0; i < scenes.length; i++) {
            int want = had[i];
            Scene scene = scenes[i];
            Scene cleared = () -> {
                DeadCode code = scene.make();
                due("clear", code.clear(), want);
                return code;
            };
            asIfNew(cleared);
            due("clear again", cleared.make().clear(), 0);
        }
    }

    private static void asIfNew(Scene cleared) {
        List<ToLongFunction<DeadCode>> all = questions();
        int atOnce = 250;
        for (int from = 0; from < all.size(); from += atOnce) {
            DeadCode one = fresh();
            DeadCode other = cleared.make();
            for (int i = from; i < Math.min(all.size(), from + atOnce); i++) {
                due("question " + i + " behind clear", all.get(i).applyAsLong(other), all.get(i).applyAsLong(one));
            }
        }
    }
}
