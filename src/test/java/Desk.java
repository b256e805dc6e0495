/** An object that a sentence is tried on: the calls of the face, with other calls ahead of each of them. */
final class Desk {
    static final int MOST_CALLS = 512;

    private final Checks checks;
    private final String where;
    private final DeadCode code = new DeadCode();
    private final Others others;
    private int relies = 0;
    private int ahead = 0;
    private int made = 0;

    Desk(Checks checks, String where, long seed) {
        this.checks = checks;
        this.where = where;
        others = new Others(code, seed);
    }

    int made() {
        return made;
    }

    /** Does so many other calls, whatever they change. */
    void begin(int calls) {
        for (int i = 0; i < calls; i++) {
            others.anything();
        }
        made += calls;
    }

    /** From here on so many calls stand ahead of each one, that leave what the sentence relies on. */
    void disturb(int callsAhead, int sentenceRelies) {
        ahead = callsAhead;
        relies = sentenceRelies;
    }

    private void count() {
        for (int left = ahead; left > 0;) {
            int done = others.harmless(relies, left);
            left -= done;
            made += done;
        }
        made++;
    }

    void due(String what, long got, long want) {
        checks.due(where + ": " + what, got, want);
    }

    int put(int member, int kind, int a, int b, int c) {
        count();
        return code.put(member, kind, a, b, c);
    }

    int cut(int member) {
        count();
        return code.cut(member);
    }

    int root(int member, boolean on) {
        count();
        return code.root(member, on);
    }

    int trial() {
        count();
        return code.trial();
    }

    int run(int which, int member, int x, int y) {
        count();
        return code.run(which, member, x, y);
    }

    long told(int what) {
        count();
        return code.told(what);
    }

    int said(int i) {
        count();
        return code.said(i);
    }

    int marks(int member, int place) {
        count();
        return code.marks(member, place);
    }

    long known(int member, int place, int r) {
        count();
        return code.known(member, place, r);
    }

    int read(int member, int place, int r) {
        count();
        return code.read(member, place, r);
    }

    int used(int member) {
        count();
        return code.used(member);
    }

    int field(int f) {
        count();
        return code.field(f);
    }

    int doubled(int member) {
        count();
        return code.doubled(member);
    }

    int size(int which, int member) {
        count();
        return code.size(which, member);
    }

    long part(int which, int member, int place, int what) {
        count();
        return code.part(which, member, place, what);
    }

    int clear() {
        count();
        return code.clear();
    }

    /** Instructions more of a member, each as its kind and what it has. */
    void add(int member, int[]... rows) {
        for (int[] one : rows) {
            int place = put(member, one[0], one[1], one[2], one[3]);
            if (place < 0) {
                due("a put that the sentence needs, of kind " + one[0], place, 0);
            }
        }
    }

    void renew(int member, int[]... rows) {
        cut(member);
        add(member, rows);
    }

    /** A run of the program: how it ends, what it gives, how many instructions it does. */
    void dueRun(int member, int x, int y, int ends, int gives, int done) {
        due("how a run ends", run(0, member, x, y), ends);
        due("what is given", told(0), gives);
        due("how many are done", told(1), done);
    }

    void dueSaid(int... want) {
        due("how often something is said", told(2), want.length);
        for (int i = 0; i < want.length; i++) {
            due("said " + i, said(i), want[i]);
        }
    }

    void dueMarks(int member, int... want) {
        for (int place = 0; place < want.length; place++) {
            due("marks of " + member + " " + place, marks(member, place), want[place]);
        }
    }

    void dueKnown(int member, int place, long... want) {
        for (int r = 0; r < want.length; r++) {
            due("known of " + member + " " + place + " " + r, known(member, place, r), want[r]);
        }
    }

    void dueRead(int member, int place, int... want) {
        for (int r = 0; r < want.length; r++) {
            due("read of " + member + " " + place + " " + r, read(member, place, r), want[r]);
        }
    }

    /** What a member is in THE TRIAL. */
    void dueTrial(int member, int[]... want) {
        due("size of " + member + " in THE TRIAL", size(1, member), want.length);
        for (int place = 0; place < want.length; place++) {
            for (int what = 0; what < 4; what++) {
                due("part " + what + " of " + member + " " + place, part(1, member, place, what), want[place][what]);
            }
        }
    }
}
