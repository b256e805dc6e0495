/** Boundaries of THE TRIAL (promise 5, and what 6, 15, 16 tell of it), sentence by sentence. */
public final class TrialBoundaryTest extends Bench {
    public static void main(String[] args) {
        nothingThere();
        asMuchAsThereCanBe();
        notUsed();
        notReached();
        marksThatGo();
        marksThatStay();
        alwaysTaken();
        alwaysTakenAtTheEnds();
        places();
        placesBeyondTheEnd();
        placesOfWhatGoes();
        againAndAgain();
        longestRounds();
        eachMemberForItself();
        secondProgram();
        ofTheProgramAsItIs();
        trialAgain();
        runsOfIt();
        checks.end("TrialBoundaryTest");
    }

    private static void nothingThere() {
        DeadCode code = new DeadCode();
        due("STATE at first", code.size(1, 0), STATE);
        due("of no INSTRUCTIONS", code.trial(), 0);
        for (int m = 0; m < 8; m++) {
            due("size of " + m, code.size(1, m), 0);
            due("part of " + m, code.part(1, m, 0, 0), UNKNOWN);
        }
        due("again", code.trial(), 0);
        DeadCode rooted = new DeadCode();
        rooted.root(0, true);
        due("of an empty ROOT", rooted.trial(), 0);
    }

    private static void asMuchAsThereCanBe() {
        DeadCode stays = new DeadCode();
        DeadCode goes = new DeadCode();
        for (int m = 0; m < 8; m++) {
            addTimes(stays, m, 24, row(SAY, 3));
            addTimes(goes, m, 24, row(SET, 3, 5));
            stays.root(m, true);
            goes.root(m, true);
        }
        due("192 stay", stays.trial(), 0);
        due("192 go", goes.trial(), 192);
        for (int m = 0; m < 8; m++) {
            due("24 stay in " + m, stays.size(1, m), 24);
            due("place 23 of " + m, stays.part(1, m, 23, 1), 3);
            due("place 24 of " + m, stays.part(1, m, 24, 1), UNKNOWN);
            due("none stays in " + m, goes.size(1, m), 0);
            due("the program stays", goes.size(0, m), 24);
            stays.root(m, false);
        }
        due("192 are not USED", stays.trial(), 192);
    }

    private static void notUsed() {
        DeadCode code = code(row(CALL, 2, 7), row(GIVE, 2), row(CALL, 2, 5));
        add(code, 7, row(SAY, 0));
        add(code, 5, row(SAY, 0), row(SAY, 0));
        add(code, 6, row(CALL, 2, 6), row(CALL, 2, 5));
        dueTrial("5 and 6 are not USED", code, 5, row(CALL, 2, 7), row(GIVE, 2));
        dueParts("7 is", code, 1, 7, row(SAY, 0));
        dueParts("5 is not", code, 1, 5);
        dueParts("6 is not", code, 1, 6);
    }

    private static void notReached() {
        dueTrial("behind GIVE", code(row(GIVE, 0), row(SAY, 0)), 1, row(GIVE, 0));
        dueTrial("behind GO", code(row(GO, 2), row(SAY, 0), row(SAY, 1)), 1, row(GO, 1), row(SAY, 1));
        dueTrial("behind CHECK of 0", code(row(CHECK, 2), row(SAY, 0)), 1, row(CHECK, 2));
        dueTrial("behind DIV by 0", code(row(DIV, 3, 0, 2), row(SAY, 0)), 1, row(DIV, 3, 0, 2));
        dueTrial("all behind place 0", addTimes(code(row(GIVE, 1)), 0, 23, row(SAY, 0)), 23, row(GIVE, 1));
        dueTrial("a circle", code(row(GO, 0), row(SAY, 0)), 1, row(GO, 0));
    }

    private static void marksThatGo() {
        dueTrial("MARK 4", code(row(IF, 2, 3, 0), row(SAY, 0)), 1, row(SAY, 0));
        dueTrial("MARK 8", code(row(LOAD, 2, 0), row(SAY, 0)), 1, row(SAY, 0));
        dueTrial("MARK 8 at the last place", code(row(SAY, 0), row(LOAD, 2, 0)), 1, row(SAY, 0));
        dueTrial("MARK 16", code(row(SET, 2, 1), row(CHECK, 2), row(SAY, 2)), 1, row(SET, 2, 1), row(SAY, 2));
        dueTrial("all go", code(row(SET, 2, 1), row(CHECK, 2), row(IF, 2, 3, 0)), 3);
        dueTrial("DIV by a CONSTANT", code(row(SET, 2, -1), row(DIV, 3, 0, 2), row(SAY, 2)), 1,
                row(SET, 2, -1), row(SAY, 2));
    }

    private static void marksThatStay() {
        int[][] alone = {row(DIV, 3, 0, 1), row(IF, 0, 1, 1), row(GO, 1), row(STORE, 0, 3), row(CALL, 0, 0),
            row(GIVE, 0), row(CHECK, 0), row(SAY, 0), row(CHECK, 2), row(DIV, 0, 0, 3)};
        for (int[] one : alone) {
            dueTrial("kind " + one[0] + " stays", code(one), 0, one);
        }
        dueTrial("a SET that is read stays", code(row(SET, 3, MIN), row(GIVE, 3)), 0, row(SET, 3, MIN), row(GIVE, 3));
        dueTrial("a CONSTANT is not written in", code(row(SET, 2, 4), row(ADD, 3, 2, 2), row(GIVE, 3)), 0,
                row(SET, 2, 4), row(ADD, 3, 2, 2), row(GIVE, 3));
        dueTrial("a MOVE to itself that is read stays", code(row(MOVE, 0, 0), row(GIVE, 0)), 0, row(MOVE, 0, 0),
                row(GIVE, 0));
        dueTrial("a GO to the next place stays", code(row(GO, 1), row(SAY, 0)), 0, row(GO, 1), row(SAY, 0));
    }

    private static void alwaysTaken() {
        DeadCode code = code(row(SET, 2, -1), row(IF, 2, 3, 3), row(SAY, 0), row(SAY, 2));
        dueTrial("an IF becomes GO", code, 1, row(SET, 2, -1), row(GO, 2), row(SAY, 2));
        DeadCode idle = code(row(SET, 2, -1), row(IF, 2, 3, 3), row(SAY, 0), row(SAY, 1));
        dueTrial("what only it read goes", idle, 2, row(GO, 1), row(SAY, 1));
        DeadCode next = code(row(SET, 3, 1), row(IF, 2, 3, 2), row(SAY, 0));
        dueTrial("to the next place", next, 1, row(GO, 1), row(SAY, 0));
        DeadCode two = code(row(SET, 3, 1), row(IF, 2, 3, 2), row(IF, 2, 3, 3), row(SAY, 3));
        dueTrial("two of them", two, 0, row(SET, 3, 1), row(GO, 2), row(GO, 3), row(SAY, 3));
    }

    private static void alwaysTakenAtTheEnds() {
        DeadCode end = code(row(SET, 3, 1), row(IF, 2, 3, 24), row(SAY, 0));
        dueTrial("to THE END", end, 2, row(GO, 1));
        DeadCode back = code(row(SAY, 0), row(SET, 3, 1), row(IF, 2, 3, 0));
        dueTrial("to place 0", back, 1, row(SAY, 0), row(GO, 0));
        DeadCode self = code(row(SET, 3, 1), row(IF, 2, 3, 1));
        dueTrial("to itself", self, 1, row(GO, 0));
        DeadCode last = code(row(SET, 3, 1));
        addTimes(last, 0, 22, row(SAY, 0));
        add(last, 0, row(IF, 2, 3, 23));
        last.root(0, true);
        due("at place 23, to itself", last.trial(), 1);
        due("it is at place 22 now", last.part(1, 0, 22, 0), GO);
        due("and goes there", last.part(1, 0, 22, 1), 22);
    }

    private static void places() {
        DeadCode code = code(row(LOAD, 2, 0), row(IF, 0, 1, 5), row(LOAD, 3, 0), row(SAY, 0), row(IF, 1, 0, 0),
                row(SAY, 1), row(GO, 3));
        dueTrial("places ahead and behind", code, 2, row(IF, 0, 1, 3), row(SAY, 0), row(IF, 1, 0, 0), row(SAY, 1),
                row(GO, 1));
        DeadCode none = code(row(IF, 0, 1, 3), row(SAY, 0), row(GO, 0), row(GO, 1));
        dueTrial("nothing goes", none, 0, row(IF, 0, 1, 3), row(SAY, 0), row(GO, 0), row(GO, 1));
        DeadCode first = code(row(SET, 2, 9), row(SAY, 0), row(GO, 1));
        dueTrial("place 1 becomes 0", first, 1, row(SAY, 0), row(GO, 0));
    }

    private static void placesBeyondTheEnd() {
        for (int p = 2; p <= 24; p++) {
            dueTrial("GO to " + p, code(row(SAY, 0), row(GO, p)), 0, row(SAY, 0), row(GO, 2));
            dueTrial("IF to " + p, code(row(SAY, 0), row(IF, 0, 1, p)), 0, row(SAY, 0), row(IF, 0, 1, 2));
        }
        DeadCode code = code(row(LOAD, 2, 0), row(IF, 0, 1, 24), row(SAY, 0), row(LOAD, 2, 0));
        dueTrial("24 becomes 2", code, 2, row(IF, 0, 1, 2), row(SAY, 0));
        due("the program keeps 24", code.part(0, 0, 1, 3), 24);
        DeadCode full = code(row(GO, 24));
        dueTrial("GO 24 alone", full, 0, row(GO, 1));
        DeadCode whole = addTimes(code(row(IF, 0, 1, 24)), 0, 23, row(SAY, 0));
        whole.root(0, true);
        due("of 24 none goes", whole.trial(), 0);
        due("24 stays 24", whole.part(1, 0, 0, 3), 24);
    }

    private static void placesOfWhatGoes() {
        DeadCode idle = code(row(IF, 0, 1, 2), row(SAY, 0), row(LOAD, 2, 0), row(SAY, 1));
        dueTrial("a way to one that goes", idle, 1, row(IF, 0, 1, 2), row(SAY, 0), row(SAY, 1));
        DeadCode last = code(row(IF, 0, 1, 2), row(SAY, 0), row(LOAD, 2, 0));
        dueTrial("a way to the last, that goes", last, 1, row(IF, 0, 1, 2), row(SAY, 0));
        DeadCode back = code(row(LOAD, 2, 0), row(SAY, 1), row(IF, 0, 1, 0));
        dueTrial("a way back to one that goes", back, 1, row(SAY, 1), row(IF, 0, 1, 0));
        DeadCode row = code(row(IF, 0, 1, 3), row(SAY, 0), row(LOAD, 2, 0), row(LOAD, 2, 1), row(LOAD, 2, 2));
        dueTrial("three that go", row, 3, row(IF, 0, 1, 2), row(SAY, 0));
    }

    private static void againAndAgain() {
        DeadCode two = code(row(LOAD, 2, 0), row(MOVE, 3, 2), row(SAY, 0));
        dueMarks("only the second is IDLE", two, 1, 9, 1);
        dueTrial("the first goes behind it", two, 2, row(SAY, 0));
        DeadCode check = code(row(SET, 2, 5), row(CHECK, 2), row(SAY, 1));
        dueTrial("what only a CHECK read", check, 2, row(SAY, 1));
        DeadCode test = code(row(SET, 2, 5), row(IF, 2, 3, 0), row(SAY, 1));
        dueTrial("what only an IF read", test, 2, row(SAY, 1));
        DeadCode divisor = code(row(SET, 2, 5), row(DIV, 3, 0, 2), row(SAY, 1));
        dueTrial("what only a DIV read", divisor, 2, row(SAY, 1));
        DeadCode dead = code(row(SET, 2, 5), row(GIVE, 1), row(SAY, 2));
        dueTrial("what none that is REACHED read", dead, 2, row(GIVE, 1));
        DeadCode ring = code(row(ADD, 2, 2, 0), row(SAY, 0), row(GO, 0));
        dueTrial("one that it reads itself stays", ring, 0, row(ADD, 2, 2, 0), row(SAY, 0), row(GO, 0));
    }

    /** Each round finds one more: the last is IDLE, then the one ahead of it, .. */
    private static void longestRounds() {
        for (int size = 1; size <= 24; size++) {
            DeadCode code = new DeadCode();
            for (int place = 0; place < size; place++) {
                add(code, 0, row(TIMES, 2 + place % 2, 3 - place % 2, 0));
            }
            dueTrial(size + " rounds", code, size);
        }
        DeadCode moves = code(row(IF, 0, 1, 24));
        for (int place = 1; place < 23; place++) {
            add(moves, 0, row(ADD, 2 + place % 2, 3 - place % 2, 1));
        }
        add(moves, 0, row(SAY, 0));
        dueTrial("a place that moves in each round", moves, 22, row(IF, 0, 1, 2), row(SAY, 0));
    }

    private static void eachMemberForItself() {
        DeadCode code = code(row(SET, 2, 1), row(CALL, 3, 1), row(SAY, 0));
        add(code, 1, row(LOAD, 2, 0), row(LOAD, 2, 0), row(GO, 24));
        add(code, 2, row(LOAD, 2, 0));
        dueTrial("0", code, 4, row(CALL, 3, 1), row(SAY, 0));
        dueParts("1", code, 1, 1, row(GO, 1));
        dueParts("2", code, 1, 2);
    }

    private static void secondProgram() {
        DeadCode code = code(row(SET, 2, 1), row(IF, 3, 2, 3), row(SAY, 0), row(SAY, 1));
        dueTrial("THE TRIAL", code, 2, row(GO, 1), row(SAY, 1));
        dueParts("the program is as it was", code, 0, 0, row(SET, 2, 1), row(IF, 3, 2, 3), row(SAY, 0), row(SAY, 1));
        dueMarks("MARKS are the program's", code, 1, 3, 0, 1);
        due("known is the program's", code.known(0, 3, 2), 1);
        due("read is the program's", code.read(0, 0, 2), 1);
        due("doubled is the program's", add(code, 1, row(GO, 1), row(SAY, 1)).doubled(1), 1);
        due("put goes to the program", code.put(0, SAY, 0, 0, 0), 4);
        due("cut cuts the program", code.cut(0), 5);
        dueParts("THE TRIAL stays behind both", code, 1, 0, row(GO, 1), row(SAY, 1));
        code.root(0, false);
        dueParts("and behind root", code, 1, 0, row(GO, 1), row(SAY, 1));
    }

    private static void ofTheProgramAsItIs() {
        DeadCode code = code(row(SAY, 0));
        code.root(0, true);
        code.trial();
        add(code, 0, row(LOAD, 2, 0), row(SAY, 1));
        due("THE TRIAL is of the former", code.size(1, 0), 1);
        due("a newer one", code.trial(), 1);
        dueParts("of the newer", code, 1, 0, row(SAY, 0), row(SAY, 1));
        code.cut(0);
        due("of nothing", code.trial(), 0);
        dueParts("of nothing", code, 1, 0);
        code.clear();
        due("no TRIAL behind clear", code.size(1, 0), STATE);
        due("nor part", code.part(1, 0, 0, 0), STATE);
        due("nor RUN", code.run(1, 0, 0, 0), STATE);
        due("one of nothing", code.trial(), 0);
        due("is one", code.size(1, 0), 0);
    }

    private static void trialAgain() {
        DeadCode code = code(row(LOAD, 2, 0), row(MOVE, 3, 2), row(IF, 2, 3, 24), row(SAY, 0), row(LOAD, 1, 1));
        for (int i = 0; i < 3; i++) {
            dueTrial("the same again", code, 1, row(LOAD, 2, 0), row(MOVE, 3, 2), row(IF, 2, 3, 4), row(SAY, 0));
        }
    }

    private static void runsOfIt() {
        DeadCode code = code(row(SET, 2, 5), row(SET, 3, 7), row(IF, 2, 3, 4), row(SAY, 0), row(CALL, 1, 7),
                row(GIVE, 1));
        add(code, 7, row(LOAD, 2, 3), row(STORE, 0, 1), row(GIVE, 0));
        code.root(0, true);
        due("fewer", code.trial(), 4);
        dueRun("the program", code, 8, 9, 0, 8, 8);
        dueFields("the program", code, 0, 8, 0, 0);
        due("THE TRIAL", code.run(1, 0, 8, 9), 0);
        due("it gives the same", code.told(0), 8);
        due("it does fewer", code.told(1), 5);
        dueFields("it writes the same", code, 0, 8, 0, 0);
        due("its member 7", code.run(1, 7, 4, 4), 0);
        due("gives the same", code.told(0), 4);
        code.cut(7);
        due("it calls its own member 7", code.run(1, 0, 8, 9), 0);
        due("it still gives the same", code.told(0), 8);
        due("the program calls the program's", code.run(0, 0, 8, 9), 0);
        due("which gives 0", code.told(0), 0);
    }
}
