import java.util.Random;

/** The other calls that stand ahead of the calls of a sentence, or between them; by a fixed seed. */
final class Others {
    private static final int[] NUMBERS = {0, 1, -1, 2, 7, 60, Integer.MAX_VALUE, Integer.MIN_VALUE};
    private static final int[] FAR = {Integer.MIN_VALUE, -1, 8, 25, Integer.MAX_VALUE};

    /** The member that calls there and back are made of, as the sentences leave it alone. */
    private static final int SPARE = 6;

    private final DeadCode code;
    private final Random random;

    Others(DeadCode code, long seed) {
        this.code = code;
        random = new Random(seed);
    }

    /** One call, whatever it changes. */
    void anything() {
        int m = random.nextInt(8);
        switch (random.nextInt(20)) {
            case 0: code.cut(m); break;
            case 1: case 2: code.root(m, random.nextInt(4) != 0); break;
            case 3: code.trial(); break;
            case 4: case 5: code.run(random.nextInt(2), m, number(), number()); break;
            case 6: question(); break;
            case 7: refused(); break;
            case 8:
                if (random.nextInt(20) == 0) {
                    code.clear();
                } else {
                    put(m);
                }
                break;
            default: put(m); break;
        }
    }

    /** Calls that leave all that the sentence relies on: how many were made, of so many at most. */
    int harmless(int relies, int most) {
        switch (random.nextInt(6)) {
            case 0:
                refused();
                return 1;
            case 1:
                if ((relies & Sentences.RUN) == 0) {
                    code.run(random.nextInt(2), random.nextInt(8), number(), number());
                    return 1;
                }
                break;
            case 2:
                if ((relies & Sentences.TRIAL) == 0) {
                    code.trial();
                    return 1;
                }
                break;
            case 3:
                if ((relies & Sentences.SPARE) == 0 && most >= 3) {
                    return thereAndBack(most);
                }
                break;
            default:
                break;
        }
        question();
        return 1;
    }

    private int thereAndBack(int most) {
        if (random.nextInt(3) == 0) {
            code.root(SPARE, true);
            question();
            code.root(SPARE, false);
            return 3;
        }
        int between = 1 + random.nextInt(Math.min(26, most - 1));
        for (int i = 0; i < between; i++) {
            if (random.nextInt(6) == 0) {
                question();
            } else {
                put(SPARE);
            }
        }
        code.cut(SPARE);
        return between + 1;
    }

    private void put(int m) {
        int kind = random.nextInt(13);
        int place = random.nextInt(25);
        int a = random.nextInt(4);
        int b = random.nextInt(4);
        switch (kind) {
            case 0: code.put(m, kind, a, number(), 0); break;
            case 5: code.put(m, kind, a, b, place); break;
            case 6: code.put(m, kind, place, 0, 0); break;
            case 9: code.put(m, kind, a, random.nextInt(8), 0); break;
            default: code.put(m, kind, a, b, random.nextInt(4)); break;
        }
    }

    private void question() {
        int m = random.nextInt(8);
        int place = random.nextInt(random.nextBoolean() ? 25 : 4);
        int four = random.nextInt(4);
        switch (random.nextInt(10)) {
            case 0: code.told(random.nextInt(7)); break;
            case 1: code.said(random.nextInt(62)); break;
            case 2: code.marks(m, place); break;
            case 3: code.known(m, place, four); break;
            case 4: code.read(m, place, four); break;
            case 5: code.used(m); break;
            case 6: code.field(four); break;
            case 7: code.doubled(m); break;
            case 8: code.size(random.nextInt(2), m); break;
            default: code.part(random.nextInt(2), m, place, four); break;
        }
    }

    /** A call that is refused in every state. */
    private void refused() {
        int m = random.nextInt(8);
        int far = FAR[random.nextInt(FAR.length)];
        switch (random.nextInt(12)) {
            case 0: code.put(far, 0, 0, 0, 0); break;
            case 1: code.put(m, random.nextBoolean() ? -1 : 13, 0, 0, 0); break;
            case 2: code.put(m, 6, random.nextBoolean() ? -1 : 25, 0, 0); break;
            case 3: code.put(m, 2, 0, 0, far); break;
            case 4: code.cut(far); break;
            case 5: code.root(far, random.nextBoolean()); break;
            case 6: code.run(far, m, 1, 1); break;
            case 7: code.run(random.nextInt(2), far, 1, 1); break;
            case 8: code.told(far == 8 ? 7 : far); break;
            case 9: code.known(m, 0, far); break;
            case 10: code.size(far, m); break;
            default: code.part(0, m, 0, far); break;
        }
    }

    private int number() {
        return NUMBERS[random.nextInt(NUMBERS.length)];
    }
}
