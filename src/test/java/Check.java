import java.util.List;

/** Compares answers with what is due, and ends a test with exit code 1 if one was wrong. */
final class Check {
    private static final int MOST_PRINTED = 40;

    private final String test;
    private final Face.Maker maker;
    private final boolean prints;
    private int checks;
    private int wrong;

    Check(String test) {
        this(test, Face::real, true);
    }

    /** What is broken on purpose shall be found wrong: nothing is printed of it. */
    Check(String test, Face.Maker maker, boolean prints) {
        this.test = test;
        this.maker = maker;
        this.prints = prints;
    }

    Face make(int pages, int records) {
        return maker.make(pages, records);
    }

    int checks() {
        return checks;
    }

    int wrong() {
        return wrong;
    }

    void due(String call, int got, int want) {
        that(call + " answered " + got + ", due is " + want, got == want);
    }

    void that(String complaint, boolean holds) {
        checks++;
        if (!holds) {
            wrong++;
            if (prints && wrong <= MOST_PRINTED) {
                System.out.println(test + ": " + complaint);
            }
        }
    }

    /** Records are given as key, tag, key, tag, .. */
    void file(String when, Face x, int file, int... keysAndTags) {
        int count = keysAndTags.length / 2;
        due(when + ": size(" + file + ")", x.size(file), count);
        for (int i = 0; i < count; i++) {
            due(when + ": key(" + file + ", " + i + ")", x.key(file, i), keysAndTags[2 * i]);
            due(when + ": tag(" + file + ", " + i + ")", x.tag(file, i), keysAndTags[2 * i + 1]);
        }
    }

    void file(String when, Face x, int file, List<int[]> records) {
        int[] flat = new int[2 * records.size()];
        for (int i = 0; i < records.size(); i++) {
            flat[2 * i] = records.get(i)[0];
            flat[2 * i + 1] = records.get(i)[1];
        }
        file(when, x, file, flat);
    }

    /** What told() says from 0 on. */
    void told(String when, Face x, int... wants) {
        for (int what = 0; what < wants.length; what++) {
            due(when + ": told(" + what + ")", x.told(what), wants[what]);
        }
    }

    /** How many records the runs had, and that there is no run more. */
    void runs(String when, Face x, int... wants) {
        for (int i = 0; i < wants.length; i++) {
            due(when + ": run(" + i + ")", x.run(i), wants[i]);
        }
        due(when + ": run(" + wants.length + ")", x.run(wants.length), ExternalSort.NONE);
        due(when + ": run(-1)", x.run(-1), ExternalSort.NONE);
    }

    static void fill(Face x, int file, int... keysAndTags) {
        for (int i = 0; i + 1 < keysAndTags.length; i += 2) {
            x.append(file, keysAndTags[i], keysAndTags[i + 1]);
        }
    }

    /** Keys -1, -2, ..: as many as are in memory are a run. */
    static void fillFalling(Face x, int file, int count) {
        for (int i = 1; i <= count; i++) {
            x.append(file, -i, i);
        }
    }

    /** Keys 1, 2, ..: one run. */
    static void fillRising(Face x, int file, int count) {
        for (int i = 1; i <= count; i++) {
            x.append(file, i, i);
        }
    }

    /** The same key, with tags 1, 2, .. */
    static void fillAlike(Face x, int file, int key, int count) {
        for (int i = 1; i <= count; i++) {
            x.append(file, key, i);
        }
    }

    void end() {
        System.out.println(test + ": " + checks + " checks, " + wrong + " wrong");
        if (wrong != 0 || checks == 0) {
            System.exit(1);
        }
    }
}
