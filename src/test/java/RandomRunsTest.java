import java.util.Random;

/** All promises: runs of calls, the same on every machine, whose every answer is held against the Model's. */
final class RandomRunsTest {
    private static final Check check = new Check("RandomRunsTest");
    private static final int[] ODD = {-1, 6, 17, 2, Integer.MIN_VALUE, Integer.MAX_VALUE};
    private static final int CALLS = 512;

    private final Random random;
    private final String name;
    private final Face x;
    private final Model model;
    private final int keys;
    private final int tags;
    private int[] answers = new int[4];

    private RandomRunsTest(long seed, int pages, int records, int keys, int tags) {
        random = new Random(seed);
        name = "seed " + seed + ", new(" + pages + ", " + records + ")";
        x = check.make(pages, records);
        model = new Model(pages, records);
        this.keys = keys;
        this.tags = tags;
    }

    public static void main(String[] args) {
        int[] pages = {1, 3, 8, 20, 40, 80, 200, 512, 600, 0};
        int[] records = {1, 2, 3, 4, 7, 16, 20, 0};
        int[] spreads = {1, 3, 10, 50, 1000, Integer.MAX_VALUE};
        Random sizes = new Random(5);
        int[] answers = new int[4];
        for (int seed = 0; seed < 400; seed++) {
            RandomRunsTest run = new RandomRunsTest(seed, pages[sizes.nextInt(pages.length)],
                records[sizes.nextInt(records.length)], spreads[sizes.nextInt(spreads.length)],
                spreads[sizes.nextInt(spreads.length)]);
            run.calls();
            for (int i = 0; i < 4; i++) {
                answers[i] += run.answers[i];
            }
        }
        // the runs are of no use if they do not come to every kind of answer often
        for (int i = 0; i < 4; i++) {
            check.that("only " + answers[i] + " calls answered " + -i, answers[i] > 300);
        }
        check.end();
    }

    private void calls() {
        int appends = 30 + random.nextInt(65);
        for (int call = 0; call < CALLS; call++) {
            boolean changes = random.nextInt(100) >= appends;
            String what = changes ? change(call) : append(call);
            if (changes || call == CALLS - 1) {
                compareAll(what);
            }
        }
    }

    private String append(int call) {
        int file = random.nextInt(3) > 0 ? 0 : file();
        int key = spread(keys);
        int tag = spread(tags);
        String what = name + ", call " + call + ": append(" + file + ", " + key + ", " + tag + ")";
        check.due(what, x.append(file, key, tag), model.append(file, key, tag));
        return what;
    }

    private String change(int call) {
        int a = file();
        int b = file();
        int to = file();
        int budget = random.nextInt(40) == 0 ? odd() : 3 + (random.nextBoolean() ? random.nextInt(14) : random.nextInt(3));
        int mode = random.nextInt(40) == 0 ? odd() : random.nextInt(3);
        String what = name + ", call " + call + ": ";
        int got;
        int want;
        switch (random.nextInt(8)) {
            case 0:
                what += "drop(" + a + ")";
                got = x.drop(a);
                want = model.drop(a);
                break;
            case 1:
            case 2:
                what += "distinct(" + a + ", " + to + ", " + budget + ")";
                got = x.distinct(a, to, budget);
                want = model.distinct(a, to, budget);
                break;
            case 3:
            case 4:
                what += "join(" + a + ", " + b + ", " + to + ", " + budget + ")";
                got = x.join(a, b, to, budget);
                want = model.join(a, b, to, budget);
                break;
            default:
                what += "sort(" + a + ", " + to + ", " + budget + ", " + mode + ")";
                got = x.sort(a, to, budget, mode);
                want = model.sort(a, to, budget, mode);
        }
        check.due(what, got, want);
        answers[Math.max(0, -got)]++;
        return what;
    }

    private int file() {
        return random.nextInt(60) == 0 ? odd() : random.nextInt(6);
    }

    private int odd() {
        return ODD[random.nextInt(ODD.length)];
    }

    private int spread(int most) {
        return most == Integer.MAX_VALUE ? random.nextInt() : random.nextInt(most) - most / 3;
    }

    private void compareAll(String when) {
        for (int what = -2; what < 11; what++) {
            check.due(when + ": told(" + what + ")", x.told(what), model.told(what));
        }
        for (int i = -1; i <= model.told(3) + 1; i++) {
            check.due(when + ": run(" + i + ")", x.run(i), model.run(i));
        }
        for (int file = -1; file < 7; file++) {
            check.due(when + ": size(" + file + ")", x.size(file), model.size(file));
            check.due(when + ": key behind", x.key(file, model.size(file)), 0);
            check.due(when + ": tag behind", x.tag(file, model.size(file)), 0);
        }
        for (int file = 0; file < 6; file++) {
            check.file(when, x, file, model.list(file));
        }
    }
}
