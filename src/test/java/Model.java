import java.util.ArrayDeque;
import java.util.ArrayList;
import java.util.Arrays;
import java.util.Deque;
import java.util.HashSet;
import java.util.List;
import java.util.Objects;
import java.util.Set;

/**
 * The document once more, for comparison: lists, sets, recursion and exceptions where the class has rows and
 * sweeps, so that the two are not wrong in the same way.
 */
final class Model {
    static final long ANY = 1000000000000L, NOT_REACHED = 2000000000000L;

    /** What each kind has: r register, n number, f field, m member, p place. */
    private static final String[] HAS = {"rn", "rr", "rrr", "rrr", "rrr", "rrp", "p", "rf", "rf", "rm", "r", "r", "r"};

    private static final class Ended extends Exception {
        private static final long serialVersionUID = 1L;
        final int how;

        Ended(int how) {
            this.how = how;
        }
    }

    private List<List<int[]>> program = empty();
    private List<List<int[]>> second = null;
    private final Set<Integer> roots = new HashSet<>();
    private int[] fields = new int[4];
    private List<Integer> saids = new ArrayList<>();
    private int done = 0;
    private int given = 0;

    private static List<List<int[]>> empty() {
        List<List<int[]>> all = new ArrayList<>();
        for (int m = 0; m < 8; m++) {
            all.add(new ArrayList<>());
        }
        return all;
    }

    private static int total(List<List<int[]>> all) {
        return all.stream().mapToInt(List::size).sum();
    }

    private static boolean in(int value, int below) {
        return 0 <= value && value < below;
    }

    int put(int member, int kind, int a, int b, int c) {
        if (!in(member, 8) || !in(kind, 13)) {
            return -101;
        }
        int[] given = {a, b, c};
        int[] made = {kind, 0, 0, 0};
        boolean outside = false;
        for (int i = 0; i < HAS[kind].length(); i++) {
            char has = HAS[kind].charAt(i);
            if ((has == 'r' || has == 'f') && !in(given[i], 4) || has == 'm' && !in(given[i], 8)) {
                return -101;
            }
            outside |= has == 'p' && !in(given[i], 25);
            made[i + 1] = given[i];
        }
        if (outside) {
            return -102;
        }
        List<int[]> code = program.get(member);
        if (code.size() == 24) {
            return -104;
        }
        code.add(made);
        return code.size() - 1;
    }

    int cut(int member) {
        if (!in(member, 8)) {
            return -101;
        }
        return program.set(member, new ArrayList<>()).size();
    }

    int root(int member, boolean on) {
        if (!in(member, 8)) {
            return -101;
        }
        return (on ? roots.add(member) : roots.remove(member)) ? 1 : 0;
    }

    int trial() {
        Set<Integer> used = usedMembers();
        second = empty();
        for (int m : used) {
            List<int[]> code = program.get(m);
            List<int[]> next = smaller(code);
            while (!same(code, next)) {
                code = next;
                next = smaller(code);
            }
            second.set(m, new ArrayList<>(code));
        }
        return total(program) - total(second);
    }

    private static boolean same(List<int[]> one, List<int[]> other) {
        return Arrays.deepEquals(one.toArray(), other.toArray());
    }

    private static List<int[]> smaller(List<int[]> code) {
        long[][] known = values(code);
        List<Integer> staying = new ArrayList<>();
        for (int place = 0; place < code.size(); place++) {
            int marks = marksOf(code, known, place);
            if ((marks & 1) == 1 && (marks & 28) == 0) {
                staying.add(place);
            }
        }
        List<int[]> next = new ArrayList<>();
        for (int place : staying) {
            int[] one = code.get(place).clone();
            if ((marksOf(code, known, place) & 2) == 2) {
                one = new int[] {6, one[3], 0, 0};
            }
            int slot = one[0] == 5 ? 3 : one[0] == 6 ? 1 : 0;
            if (slot != 0) {
                int p = one[slot];
                one[slot] = (int) staying.stream().filter(q -> q < p).count();
            }
            next.add(one);
        }
        return next;
    }

    int run(int which, int member, int x, int y) {
        int no = refused(which, member);
        if (no != 0) {
            return no;
        }
        fields = new int[4];
        saids = new ArrayList<>();
        done = 0;
        given = 0;
        try {
            given = call(which == 0 ? program : second, member, x, y, 1);
            return 0;
        } catch (Ended ended) {
            return ended.how;
        }
    }

    private int call(List<List<int[]>> all, int member, int x, int y, int depth) throws Ended {
        if (depth == 9) {
            throw new Ended(3);
        }
        int[] r = {x, y, 0, 0};
        int place = 0;
        List<int[]> code = all.get(member);
        while (place < code.size()) {
            if (done == 2000) {
                throw new Ended(4);
            }
            done++;
            int[] i = code.get(place);
            place++;
            if (i[0] == 0) {
                r[i[1]] = i[2];
            } else if (i[0] == 1) {
                r[i[1]] = r[i[2]];
            } else if (i[0] == 2) {
                r[i[1]] = r[i[2]] + r[i[3]];
            } else if (i[0] == 3) {
                r[i[1]] = r[i[2]] * r[i[3]];
            } else if (i[0] == 4) {
                if (r[i[3]] == 0) {
                    throw new Ended(1);
                }
                r[i[1]] = r[i[2]] / r[i[3]];
            } else if (i[0] == 5) {
                place = r[i[1]] < r[i[2]] ? i[3] : place;
            } else if (i[0] == 6) {
                place = i[1];
            } else if (i[0] == 7) {
                r[i[1]] = fields[i[2]];
            } else if (i[0] == 8) {
                fields[i[2]] = r[i[1]];
            } else if (i[0] == 9) {
                r[i[1]] = call(all, i[2], r[0], r[1], depth + 1);
            } else if (i[0] == 10) {
                return r[i[1]];
            } else if (i[0] == 11) {
                if (r[i[1]] == 0) {
                    throw new Ended(2);
                }
            } else {
                saids.add(r[i[1]]);
            }
        }
        return 0;
    }

    long told(int what) {
        return what == 0 ? given : what == 1 ? done : what == 2 ? saids.size()
                : what >= 3 && what <= 6 ? fields[what - 3] : -102;
    }

    int said(int i) {
        return i >= 0 && i < Math.min(60, saids.size()) ? saids.get(i) : 0;
    }

    int marks(int member, int place) {
        if (!in(member, 8) || !in(place, program.get(member).size())) {
            return -101;
        }
        return marksOf(program.get(member), values(program.get(member)), place);
    }

    long known(int member, int place, int r) {
        if (!in(member, 8) || !in(place, program.get(member).size()) || !in(r, 4)) {
            return -101;
        }
        long[] row = values(program.get(member))[place];
        return row == null ? NOT_REACHED : row[r];
    }

    int read(int member, int place, int r) {
        if (!in(member, 8) || !in(place, program.get(member).size()) || !in(r, 4)) {
            return -101;
        }
        List<int[]> code = program.get(member);
        return isRead(code, values(code), place, r) ? 1 : 0;
    }

    int used(int member) {
        return !in(member, 8) ? -101 : usedMembers().contains(member) ? 1 : 0;
    }

    int field(int f) {
        if (!in(f, 4)) {
            return -101;
        }
        int found = 0;
        for (int m : usedMembers()) {
            long[][] known = values(program.get(m));
            for (int place = 0; place < known.length; place++) {
                int[] i = program.get(m).get(place);
                if (known[place] != null && (i[0] == 7 || i[0] == 8) && i[2] == f) {
                    found |= i[0] == 7 ? 1 : 2;
                }
            }
        }
        return found;
    }

    int doubled(int member) {
        if (!in(member, 8)) {
            return -101;
        }
        int least = 0;
        while (!spelled(program.get(least)).equals(spelled(program.get(member)))) {
            least++;
        }
        return least;
    }

    int size(int which, int member) {
        int no = refused(which, member);
        return no != 0 ? no : (which == 0 ? program : second).get(member).size();
    }

    long part(int which, int member, int place, int what) {
        if (!in(member, 8)) {
            return -101;
        }
        if (!in(which, 2) || !in(what, 4)) {
            return -102;
        }
        if (which == 1 && second == null) {
            return -103;
        }
        List<int[]> code = (which == 0 ? program : second).get(member);
        return in(place, code.size()) ? code.get(place)[what] : -101;
    }

    int clear() {
        int had = total(program);
        program = empty();
        second = null;
        roots.clear();
        fields = new int[4];
        saids = new ArrayList<>();
        done = 0;
        given = 0;
        return had;
    }

    private int refused(int which, int member) {
        return !in(member, 8) ? -101 : !in(which, 2) ? -102 : which == 1 && second == null ? -103 : 0;
    }

    /** A member's text with registers 2 and 3 renamed in the order in which they come. */
    private static String spelled(List<int[]> code) {
        StringBuilder text = new StringBuilder();
        List<Integer> met = new ArrayList<>();
        for (int[] one : code) {
            text.append('\n').append(one[0]);
            for (int i = 0; i < HAS[one[0]].length(); i++) {
                int value = one[i + 1];
                if (HAS[one[0]].charAt(i) == 'r' && value >= 2) {
                    if (!met.contains(value)) {
                        met.add(value);
                    }
                    value = 2 + met.indexOf(value);
                }
                text.append(' ').append(value);
            }
        }
        return text.toString();
    }

    private Set<Integer> usedMembers() {
        Set<Integer> used = new HashSet<>();
        Deque<Integer> waiting = new ArrayDeque<>(roots);
        while (!waiting.isEmpty()) {
            int m = waiting.pop();
            if (used.add(m)) {
                long[][] known = values(program.get(m));
                for (int place = 0; place < known.length; place++) {
                    int[] i = program.get(m).get(place);
                    if (known[place] != null && i[0] == 9) {
                        waiting.push(i[2]);
                    }
                }
            }
        }
        return used;
    }

    /** Every round makes all that is known anew from what was known in the round before. */
    private static long[][] values(List<int[]> code) {
        long[][] old = new long[code.size()][];
        while (true) {
            long[][] made = new long[code.size()][];
            meet(made, 0, new long[] {ANY, ANY, 0, 0});
            for (int place = 0; place < code.size(); place++) {
                if (old[place] != null) {
                    for (int next : nexts(code, old, place)) {
                        meet(made, next, behind(code.get(place), old[place]));
                    }
                }
            }
            if (Arrays.deepEquals(old, made)) {
                return made;
            }
            old = made;
        }
    }

    private static void meet(long[][] made, int place, long[] brought) {
        if (place >= made.length) {
            return;
        }
        if (made[place] == null) {
            made[place] = brought.clone();
            return;
        }
        for (int r = 0; r < 4; r++) {
            made[place][r] = made[place][r] == brought[r] ? brought[r] : ANY;
        }
    }

    private static long[] behind(int[] i, long[] ahead) {
        long[] r = ahead.clone();
        boolean both = i[0] >= 2 && i[0] <= 4 && ahead[i[2]] != ANY && ahead[i[3]] != ANY;
        if (i[0] == 0) {
            r[i[1]] = i[2];
        } else if (i[0] == 1) {
            r[i[1]] = ahead[i[2]];
        } else if (both && i[0] == 2) {
            r[i[1]] = (int) (ahead[i[2]] + ahead[i[3]]);
        } else if (both && i[0] == 3) {
            r[i[1]] = (int) (ahead[i[2]] * ahead[i[3]]);
        } else if (both) {
            r[i[1]] = (int) (ahead[i[2]] / ahead[i[3]]);
        } else if (i[0] == 2 || i[0] == 3 || i[0] == 4 || i[0] == 7 || i[0] == 9) {
            r[i[1]] = ANY;
        }
        return r;
    }

    private static List<Integer> nexts(List<int[]> code, long[][] known, int place) {
        int[] i = code.get(place);
        long[] r = Objects.requireNonNull(known[place]);
        if (i[0] == 10 || i[0] == 11 && r[i[1]] == 0 || i[0] == 4 && r[i[3]] == 0) {
            return List.of();
        }
        if (i[0] == 6) {
            return List.of(i[1]);
        }
        if (i[0] == 5) {
            if (r[i[1]] == ANY || r[i[2]] == ANY) {
                return List.of(place + 1, i[3]);
            }
            return List.of(r[i[1]] < r[i[2]] ? i[3] : place + 1);
        }
        return List.of(place + 1);
    }

    /** Walks all ways on from a place till the register is read or set. */
    private static boolean isRead(List<int[]> code, long[][] known, int from, int r) {
        if (known[from] == null) {
            return false;
        }
        Set<Integer> seen = new HashSet<>();
        Deque<Integer> waiting = new ArrayDeque<>(nexts(code, known, from));
        while (!waiting.isEmpty()) {
            int place = waiting.pop();
            if (place >= code.size() || !seen.add(place)) {
                continue;
            }
            int[] i = code.get(place);
            if (readBy(i).contains(r)) {
                return true;
            }
            boolean sets = (i[0] <= 4 || i[0] == 7 || i[0] == 9) && i[1] == r;
            if (!sets) {
                waiting.addAll(nexts(code, known, place));
            }
        }
        return false;
    }

    private static Set<Integer> readBy(int[] i) {
        Set<Integer> read = new HashSet<>();
        if (i[0] >= 1 && i[0] <= 5) {
            read.add(i[2]);
        }
        if (i[0] >= 2 && i[0] <= 4) {
            read.add(i[3]);
        }
        if (i[0] == 5 || i[0] == 8 || i[0] >= 10) {
            read.add(i[1]);
        }
        if (i[0] == 9) {
            read.add(0);
            read.add(1);
        }
        return read;
    }

    private static int marksOf(List<int[]> code, long[][] known, int place) {
        long[] r = known[place];
        int[] i = code.get(place);
        if (r == null) {
            return 0;
        }
        int marks = 1;
        if (i[0] == 5 && r[i[1]] != ANY && r[i[2]] != ANY) {
            marks |= r[i[1]] < r[i[2]] ? 2 : 4;
        }
        if (i[0] == 11 && r[i[1]] != ANY && r[i[1]] != 0) {
            marks |= 16;
        }
        boolean canBeIdle = i[0] <= 3 || i[0] == 7 || i[0] == 4 && r[i[3]] != ANY && r[i[3]] != 0;
        if (canBeIdle && !isRead(code, known, place, i[1])) {
            marks |= 8;
        }
        return marks;
    }
}
