import java.util.ArrayList;
import java.util.List;

/** Promises 10 and 11. */
final class ToldSentences {
    private static final int NONE = -1;
    private static final int LOW = Integer.MIN_VALUE;
    private static final int HIGH = Integer.MAX_VALUE;

    static List<Sentence> all() {
        List<Sentence> all = new ArrayList<>();
        all.addAll(latest());
        all.addAll(numbers());
        all.addAll(ofTheDisk());
        all.addAll(runs());
        return all;
    }

    private static List<Sentence> latest() {
        String quote = "Of the latest sort(), distinct() or join() that was done (0 ahead of any):";
        return List.of(
            Sentence.of("Promise 10", quote, ToldSentences::zeroAheadOfAny,
                Sentence.fault("NONE ahead of any", (p, r) -> new Model(p, r) {
                    @Override
                    public int told(int what) {
                        boolean any = super.told(5) > 0;
                        return what >= 0 && what <= 5 && !any ? NONE : super.told(what);
                    }
                }),
                Sentence.fault("appends count for the most pages", (p, r) -> new Model(p, r) {
                    @Override
                    public int append(int file, int key, int tag) {
                        int count = super.append(file, key, tag);
                        told[5] = Math.max(told[5], pages - free());
                        return count;
                    }
                }),
                Sentence.fault("a refused call counts", (p, r) -> new Model(p, r) {
                    @Override
                    int failed(int to, int answer) {
                        told = new int[] {reads + writes, reads, writes, lengths.size(), passes, peak};
                        return super.failed(to, answer);
                    }
                })),
            Sentence.of("Promise 10", quote, ToldSentences::ofTheLatest,
                Sentence.fault("of the first", (p, r) -> new Model(p, r) {
                    @Override
                    int done(int to, List<int[]> result) {
                        int[] before = told;
                        int count = super.done(to, result);
                        told = before[0] > 0 ? before : told;
                        return count;
                    }
                }),
                Sentence.fault("of all together", (p, r) -> new Model(p, r) {
                    @Override
                    int done(int to, List<int[]> result) {
                        int before = told[0];
                        int count = super.done(to, result);
                        told[0] += before;
                        return count;
                    }
                }),
                Sentence.fault("not of distinct()", (p, r) -> new Model(p, r) {
                    @Override
                    public int distinct(int from, int to, int budget) {
                        int[] before = told;
                        int count = super.distinct(from, to, budget);
                        told = before;
                        return count;
                    }
                }),
                Sentence.fault("not of join()", (p, r) -> new Model(p, r) {
                    @Override
                    public int join(int a, int b, int to, int budget) {
                        int[] before = told;
                        int count = super.join(a, b, to, budget);
                        told = before;
                        return count;
                    }
                }),
                Sentence.fault("not of a sort() of nothing", (p, r) -> new Model(p, r) {
                    @Override
                    int done(int to, List<int[]> result) {
                        int[] before = told;
                        int count = super.done(to, result);
                        told = result.isEmpty() ? before : told;
                        return count;
                    }
                })),
            Sentence.of("Promise 10", quote, ToldSentences::refusedIsNotDone,
                Sentence.fault("what is refused is told", (p, r) -> new Model(p, r) {
                    @Override
                    int failed(int to, int answer) {
                        told = new int[] {reads + writes, reads, writes, lengths.size(), passes, peak};
                        return super.failed(to, answer);
                    }
                }),
                Sentence.fault("0 behind what is refused", (p, r) -> new Model(p, r) {
                    @Override
                    int failed(int to, int answer) {
                        told = new int[6];
                        return super.failed(to, answer);
                    }
                }),
                Sentence.fault("0 behind NONE", (p, r) -> new Model(p, r) {
                    @Override
                    public int sort(int from, int to, int budget, int mode) {
                        int count = super.sort(from, to, budget, mode);
                        told = count == NONE ? new int[6] : told;
                        return count;
                    }
                }),
                Sentence.fault("0 behind a drop", (p, r) -> new Model(p, r) {
                    @Override
                    public int drop(int file) {
                        told = new int[6];
                        return super.drop(file);
                    }
                })));
    }

    private static List<Sentence> numbers() {
        return List.of(
            Sentence.of("Promise 10", "0 TRANSFERS, 1 pages read, 2 pages written,", ToldSentences::readAndWritten,
                Sentence.fault("1 and 2 are turned", (p, r) -> new Model(p, r) {
                    @Override
                    public int told(int what) {
                        return super.told(what == 1 ? 2 : what == 2 ? 1 : what);
                    }
                }),
                Sentence.fault("0 is twice what is read", (p, r) -> new Model(p, r) {
                    @Override
                    public int told(int what) {
                        return what == 0 ? 2 * super.told(1) : super.told(what);
                    }
                })),
            Sentence.of("Promise 10", "3 runs (of join: of both together),", ToldSentences::howManyRuns,
                Sentence.fault("of a alone", (p, r) -> new Model(p, r) {
                    private int ofA;

                    @Override
                    void begin(int to) {
                        super.begin(to);
                        ofA = NONE;
                    }

                    @Override
                    List<int[]> arrange(List<int[]> file, int budget, int mode, boolean once) throws Refused {
                        List<int[]> sorted = super.arrange(file, budget, mode, once);
                        ofA = ofA == NONE ? lengths.size() : ofA;
                        return sorted;
                    }

                    @Override
                    int done(int to, List<int[]> result) {
                        int count = super.done(to, result);
                        told[3] = ofA;
                        return count;
                    }
                }),
                Sentence.fault("one of nothing", (p, r) -> new Model(p, r) {
                    @Override
                    int done(int to, List<int[]> result) {
                        int count = super.done(to, result);
                        told[3] = Math.max(1, told[3]);
                        return count;
                    }
                }),
                Sentence.fault("merged ones, too", (p, r) -> new Model(p, r) {
                    @Override
                    int done(int to, List<int[]> result) {
                        int count = super.done(to, result);
                        told[3] += told[4];
                        return count;
                    }
                })),
            Sentence.of("Promise 10", "4 PASSES (likewise),", ToldSentences::howManyPasses,
                Sentence.fault("of b alone", (p, r) -> new Model(p, r) {
                    @Override
                    List<int[]> arrange(List<int[]> file, int budget, int mode, boolean once) throws Refused {
                        passes = 0;
                        return super.arrange(file, budget, mode, once);
                    }
                }),
                Sentence.fault("the making of runs is one", (p, r) -> new Model(p, r) {
                    @Override
                    List<int[]> arrange(List<int[]> file, int budget, int mode, boolean once) throws Refused {
                        passes++;
                        return super.arrange(file, budget, mode, once);
                    }
                })),
            Sentence.of("Promise 10", "5 the most pages that were not FREE at one time (files' too).",
                ToldSentences::mostPages,
                Sentence.fault("without the files", (p, r) -> new Model(p, r) {
                    @Override
                    int done(int to, List<int[]> result) {
                        peak -= filePages();
                        return super.done(to, result);
                    }
                }),
                Sentence.fault("those at the end", (p, r) -> new Model(p, r) {
                    @Override
                    int done(int to, List<int[]> result) {
                        int count = super.done(to, result);
                        told[5] = pages - free();
                        return count;
                    }
                }),
                Sentence.fault("with the last page, too", (p, r) -> new Model(p, r) {
                    @Override
                    int done(int to, List<int[]> result) {
                        peak = Math.max(peak, filePages() + pagesOf(result.size()) + 1);
                        return super.done(to, result);
                    }
                }),
                Sentence.fault("0 if no page is written", (p, r) -> new Model(p, r) {
                    @Override
                    void begin(int to) {
                        super.begin(to);
                        peak = 0;
                    }
                }),
                Sentence.fault("the most of all calls", (p, r) -> new Model(p, r) {
                    private int most;

                    @Override
                    int done(int to, List<int[]> result) {
                        most = Math.max(most, peak);
                        peak = most;
                        return super.done(to, result);
                    }
                })));
    }

    private static List<Sentence> ofTheDisk() {
        return List.of(
            Sentence.of("Promise 10", "6 pages that are FREE now.", ToldSentences::freeNow,
                Sentence.fault("as the latest was done", (p, r) -> new Model(p, r) {
                    private int then = NONE;

                    @Override
                    int done(int to, List<int[]> result) {
                        int count = super.done(to, result);
                        then = free();
                        return count;
                    }

                    @Override
                    public int told(int what) {
                        return what == 6 && then != NONE ? then : super.told(what);
                    }
                }),
                Sentence.fault("those that are not", (p, r) -> new Model(p, r) {
                    @Override
                    public int told(int what) {
                        return what == 6 ? pages - free() : super.told(what);
                    }
                })),
            Sentence.of("Promise 10", "7 pages of the disk, 8 records a page.", ToldSentences::sizesOfTheDisk,
                Sentence.fault("turned", (p, r) -> new Model(p, r) {
                    @Override
                    public int told(int what) {
                        return super.told(what == 7 ? 8 : what == 8 ? 7 : what);
                    }
                }),
                Sentence.fault("as they were asked for", (p, r) -> new Model(p, r) {
                    @Override
                    public int told(int what) {
                        return what == 7 ? p : what == 8 ? r : super.told(what);
                    }
                }),
                Sentence.fault("7 is what is FREE", (p, r) -> new Model(p, r) {
                    @Override
                    public int told(int what) {
                        return super.told(what == 7 ? 6 : what);
                    }
                })),
            Sentence.of("Promise 10", "NONE for others.", ToldSentences::toldNothingElse,
                Sentence.fault("0 for 9", (p, r) -> new Model(p, r) {
                    @Override
                    public int told(int what) {
                        return what == 9 ? 0 : super.told(what);
                    }
                }),
                Sentence.fault("0 for -1", (p, r) -> new Model(p, r) {
                    @Override
                    public int told(int what) {
                        return what == -1 ? 0 : super.told(what);
                    }
                }),
                Sentence.fault("taken by its lowest bits", (p, r) -> new Model(p, r) {
                    @Override
                    public int told(int what) {
                        return super.told(what & 15);
                    }
                })));
    }

    private static List<Sentence> runs() {
        String quote = "Of those runs (of join: a's, then b's) how many records run i had.";
        return List.of(
            Sentence.of("Promise 11", quote, ToldSentences::recordsOfRuns,
                Sentence.fault("b's, then a's", (p, r) -> new Model(p, r) {
                    private int ofA;

                    @Override
                    void begin(int to) {
                        super.begin(to);
                        ofA = NONE;
                    }

                    @Override
                    List<int[]> arrange(List<int[]> file, int budget, int mode, boolean once) throws Refused {
                        List<int[]> sorted = super.arrange(file, budget, mode, once);
                        ofA = ofA == NONE ? lengths.size() : ofA;
                        return sorted;
                    }

                    @Override
                    int done(int to, List<int[]> result) {
                        List<Integer> turned = new ArrayList<>(lengths.subList(ofA, lengths.size()));
                        turned.addAll(lengths.subList(0, ofA));
                        lengths = turned;
                        return super.done(to, result);
                    }
                }),
                Sentence.fault("how many pages", (p, r) -> new Model(p, r) {
                    @Override
                    public int run(int i) {
                        int count = super.run(i);
                        return count == NONE ? NONE : pagesOf(count);
                    }
                }),
                Sentence.fault("with what is gone", (p, r) -> new Model(p, r) {
                    private int gone;

                    @Override
                    boolean isGoneInRuns(List<int[]> run, int[] record) {
                        boolean is = super.isGoneInRuns(run, record);
                        gone += is ? 1 : 0;
                        return is;
                    }

                    @Override
                    int done(int to, List<int[]> result) {
                        if (!lengths.isEmpty()) {
                            lengths.set(0, lengths.get(0) + gone);
                        }
                        return super.done(to, result);
                    }
                }),
                Sentence.fault("of the runs of the last pass", (p, r) -> new Model(p, r) {
                    @Override
                    List<List<int[]>> pass(List<List<int[]>> runs, int width, int mode, boolean once)
                            throws Refused {
                        List<List<int[]>> merged = super.pass(runs, width, mode, once);
                        for (int i = 0; i < merged.size(); i++) {
                            lengths.set(i, merged.get(i).size());
                        }
                        return merged;
                    }
                })),
            Sentence.of("Promise 11", quote, ToldSentences::mostRuns,
                Sentence.fault("of 255 at the most", (p, r) -> new Model(p, r) {
                    @Override
                    public int run(int i) {
                        return i < 255 ? super.run(i) : NONE;
                    }
                }),
                Sentence.fault("of 339 at the most", (p, r) -> new Model(p, r) {
                    @Override
                    public int run(int i) {
                        return i < 339 ? super.run(i) : NONE;
                    }
                })),
            Sentence.of("Promise 11", "NONE: no such one.", ToldSentences::noSuchRun,
                Sentence.fault("0", (p, r) -> new Model(p, r) {
                    @Override
                    public int run(int i) {
                        return Math.max(0, super.run(i));
                    }
                }),
                Sentence.fault("those of earlier calls stay", (p, r) -> new Model(p, r) {
                    @Override
                    int done(int to, List<int[]> result) {
                        for (int i = lengths.size(); i < toldLengths.size(); i++) {
                            lengths.add(toldLengths.get(i));
                        }
                        return super.done(to, result);
                    }
                }),
                Sentence.fault("the first for -1", (p, r) -> new Model(p, r) {
                    @Override
                    public int run(int i) {
                        return super.run(i == -1 ? 0 : i);
                    }
                }),
                Sentence.fault("none behind what is refused", (p, r) -> new Model(p, r) {
                    @Override
                    int failed(int to, int answer) {
                        toldLengths = new ArrayList<>();
                        return super.failed(to, answer);
                    }
                })));
    }

    private static void zeroAheadOfAny(Check c) {
        Face x = c.make(3, 1);
        c.told("new", x, 0, 0, 0, 0, 0, 0, 3);
        Check.fillAlike(x, 0, 7, 2);
        c.told("appended", x, 0, 0, 0, 0, 0, 0, 1);
        c.due("FULL", x.sort(0, 0, 3, 0), -2);
        c.due("FULL", x.distinct(0, 0, 3), -2);
        c.due("FULL", x.join(0, 0, 0, 3), -2);
        c.due("no such mode", x.sort(0, 0, 3, 3), NONE);
        c.told("refused", x, 0, 0, 0, 0, 0, 0, 1);
        c.due("drop", x.drop(0), 2);
        c.told("dropped", x, 0, 0, 0, 0, 0, 0, 3);
        Face y = c.make(9, 1);
        Check.fillAlike(y, 0, 7, 2);
        c.due("too large", y.join(0, 0, 0, 3), -3);
        c.told("too large", y, 0, 0, 0, 0, 0, 0, 7);
    }

    private static void ofTheLatest(Check c) {
        Face x = c.make(40, 1);
        Check.fill(x, 0, 2, 1, 2, 1, 1, 1);
        x.sort(0, 1, 3, 0);
        c.told("sort", x, 12, 6, 6, 2, 1, 6, 34);
        x.distinct(0, 2, 3);
        // the runs 2 and 1
        c.told("distinct", x, 9, 5, 4, 2, 1, 8, 32);
        x.join(2, 2, 3, 4);
        // both have two in memory: one run each
        c.told("join", x, 14, 8, 6, 2, 0, 12, 30);
        x.sort(1, 1, 3, 1);
        c.told("sort again", x, 6, 3, 3, 1, 0, 13, 30);
        x.sort(5, 5, 3, 1);
        c.told("sort of nothing", x, 0, 0, 0, 0, 0, 10, 30);
        x.join(2, 2, 3, 4);
        x.distinct(5, 5, 3);
        c.told("distinct of nothing", x, 0, 0, 0, 0, 0, 10, 30);
        x.distinct(0, 2, 3);
        x.join(5, 4, 5, 3);
        c.told("join of nothing", x, 0, 0, 0, 0, 0, 10, 30);
    }

    private static void refusedIsNotDone(Check c) {
        Face x = c.make(9, 1);
        Check.fill(x, 0, 2, 1, 2, 2);
        c.due("sort", x.sort(0, 1, 3, 2), 2);
        int[] due = {4, 2, 2, 1, 0, 4, 5};
        c.told("sort", x, due);
        c.due("too large", x.join(0, 1, 2, 3), -3);
        c.told("too large", x, due);
        c.due("no such budget", x.sort(0, 0, 2, 0), NONE);
        c.due("no such mode", x.sort(0, 0, 3, 3), NONE);
        c.due("no such file", x.sort(6, 0, 3, 0), NONE);
        c.due("no such budget", x.distinct(0, 0, 17), NONE);
        c.due("no such file", x.join(0, 0, 6, 3), NONE);
        c.told("no such one", x, due);
        Check.fill(x, 2, 1, 1, 2, 2, 3, 3);
        due[6] = 2;
        c.told("appended", x, due);
        c.due("FULL", x.sort(2, 2, 3, 0), -2);
        c.told("FULL", x, due);
        c.due("FULL", x.distinct(2, 2, 3), -2);
        c.told("FULL", x, due);
        c.due("FULL", x.join(2, 2, 2, 3), -2);
        c.told("FULL", x, due);
        c.due("drop", x.drop(1), 2);
        due[6] = 4;
        c.told("dropped", x, due);
        c.runs("the run, too", x, 2);
    }

    private static void readAndWritten(Check c) {
        Face x = c.make(40, 2);
        Check.fill(x, 0, 1, 1, 1, 1, 1, 1, 2, 2, 2, 2);
        x.distinct(0, 1, 3);
        c.told("distinct", x, 4, 3, 1);
        x.join(0, 1, 2, 4);
        // 3 read and written, 1 read and written, 4 read; then three pairs of 1 and two of 2
        c.told("join", x, 15, 8, 7);
        x.sort(0, 1, 3, 0);
        c.told("sort", x, 6, 3, 3);
    }

    private static void howManyRuns(Check c) {
        Face x = c.make(60, 1);
        Check.fillFalling(x, 0, 3);
        Check.fillFalling(x, 1, 2);
        x.sort(0, 5, 3, 0);
        c.due("runs of three", x.told(3), 3);
        x.sort(5, 5, 3, 0);
        c.due("runs of what is sorted", x.told(3), 1);
        x.join(0, 1, 5, 3);
        c.due("runs of both", x.told(3), 5);
        x.join(1, 0, 5, 3);
        c.due("runs of both", x.told(3), 5);
        x.join(0, 4, 5, 3);
        c.due("runs of a and of nothing", x.told(3), 3);
        x.join(4, 1, 5, 3);
        c.due("runs of nothing and of b", x.told(3), 2);
        x.distinct(4, 5, 3);
        c.due("runs of nothing", x.told(3), 0);
    }

    private static void howManyPasses(Check c) {
        Face x = c.make(60, 1);
        Check.fillFalling(x, 0, 5);
        Check.fillFalling(x, 1, 2);
        x.sort(0, 5, 3, 0);
        c.due("passes of five runs", x.told(4), 3);
        x.distinct(1, 5, 3);
        c.due("passes of two runs", x.told(4), 1);
        x.join(0, 1, 5, 3);
        c.due("passes of both", x.told(4), 4);
        x.join(1, 0, 5, 3);
        c.due("passes of both", x.told(4), 4);
        x.join(1, 4, 5, 3);
        c.due("passes of a and of nothing", x.told(4), 1);
        x.sort(5, 5, 3, 0);
        c.due("passes of nothing", x.told(4), 0);
    }

    private static void mostPages(Check c) {
        Face x = c.make(60, 1);
        Check.fillFalling(x, 0, 3);
        Check.fillRising(x, 4, 7);
        x.sort(0, 1, 3, 0);
        c.due("3 and 7 of files, 3 of runs", x.told(5), 13);
        x.sort(0, 1, 3, 0);
        c.due("and 3 old ones", x.told(5), 16);
        x.distinct(0, 0, 3);
        c.due("distinct", x.told(5), 16);
        x.drop(1);
        x.sort(0, 0, 3, 0);
        c.due("sorted already", x.told(5), 13);
        x.join(0, 4, 1, 3);
        c.due("3 and 7, and as many that are sorted", x.told(5), 20);
        c.due("nothing comes", x.size(1), 0);
        x.drop(4);
        x.sort(4, 4, 3, 0);
        c.due("of nothing: those of the files", x.told(5), 3);
        // what comes is more than what is sorted
        Check.fillAlike(x, 5, 1, 4);
        x.join(5, 5, 1, 16);
        c.due("3 and 4 of files, 16 that come", x.told(5), 23);
        // what comes is less: the most is behind the sortings
        x.drop(1);
        x.join(5, 0, 1, 16);
        c.due("3 and 4, and as many that are sorted", x.told(5), 14);
    }

    private static void freeNow(Check c) {
        Face x = c.make(9, 2);
        c.due("new", x.told(6), 9);
        Check.fillFalling(x, 0, 3);
        c.due("appended", x.told(6), 7);
        x.sort(0, 1, 3, 0);
        c.due("sorted", x.told(6), 5);
        x.append(2, 1, 1);
        c.due("appended", x.told(6), 4);
        x.append(2, 1, 1);
        c.due("appended where a page has room", x.told(6), 4);
        x.drop(0);
        c.due("dropped", x.told(6), 6);
        x.sort(0, 1, 3, 0);
        c.due("sorted from nothing", x.told(6), 8);
        Check.fillRising(x, 5, 16);
        c.due("all are in use", x.told(6), 0);
    }

    private static void sizesOfTheDisk(Check c) {
        int[][] cases = {{1, 1, 1, 1}, {40, 2, 40, 2}, {0, 0, 1, 1}, {600, 20, 512, 16}, {512, 16, 512, 16}};
        for (int[] one : cases) {
            Face x = c.make(one[0], one[1]);
            String when = "new(" + one[0] + ", " + one[1] + ")";
            c.due(when + ": pages", x.told(7), one[2]);
            c.due(when + ": records", x.told(8), one[3]);
            x.append(0, 1, 1);
            c.due(when + ": pages", x.told(7), one[2]);
        }
    }

    private static void toldNothingElse(Check c) {
        Face x = c.make(40, 2);
        for (int round = 0; round < 2; round++) {
            for (int what : new int[] {-1, 9, 10, -2, 16, 17, 256, LOW, LOW + 1, HIGH}) {
                c.due("told(" + what + ")", x.told(what), NONE);
            }
            Check.fillFalling(x, 0, 3);
            x.sort(0, 0, 3, 0);
        }
    }

    private static void recordsOfRuns(Check c) {
        Face x = c.make(60, 2);
        // H is 2: the runs 5 6 7 8 9 and 1 2
        Check.fill(x, 0, 5, 0, 6, 0, 7, 0, 1, 0, 8, 0, 9, 0, 2, 0);
        x.sort(0, 1, 3, 0);
        c.runs("sort", x, 5, 2);
        Check.fill(x, 2, 5, 0, 4, 0, 3, 0);
        x.join(2, 0, 3, 3);
        c.runs("join", x, 2, 1, 5, 2);
        x.join(0, 2, 3, 3);
        c.runs("join", x, 5, 2, 2, 1);
        x.join(4, 0, 3, 3);
        c.runs("join of nothing with b", x, 5, 2);
        // one 3 is gone in its run, one in merging
        Check.fill(x, 4, 3, 0, 3, 0, 4, 0, 1, 0, 3, 0);
        x.distinct(4, 5, 3);
        c.runs("distinct", x, 2, 2);
    }

    private static void mostRuns(Check c) {
        Face x = c.make(512, 1);
        Check.fillFalling(x, 0, 256);
        c.due("256 runs", x.sort(0, 0, 3, 0), 256);
        c.due("256 runs", x.told(3), 256);
        for (int i = 0; i < 256; i += 51) {
            c.due("256 runs: run(" + i + ")", x.run(i), 1);
        }
        c.due("256 runs: run(256)", x.run(256), NONE);
        // two of three pages are for what is sorted
        Face y = c.make(512, 1);
        Check.fillFalling(y, 0, 170);
        c.due("340 runs", y.join(0, 0, 0, 3), 170);
        c.due("340 runs", y.told(3), 340);
        for (int i = 0; i < 340; i += 113) {
            c.due("340 runs: run(" + i + ")", y.run(i), 1);
        }
        c.due("340 runs: run(340)", y.run(340), NONE);
    }

    private static void noSuchRun(Check c) {
        Face x = c.make(20, 1);
        for (int i : new int[] {0, -1, 1, LOW, HIGH}) {
            c.due("ahead of any: run(" + i + ")", x.run(i), NONE);
        }
        Check.fillFalling(x, 0, 5);
        x.sort(0, 1, 3, 0);
        for (int i : new int[] {5, -1, 6, 20, 40, LOW, HIGH}) {
            c.due("five runs: run(" + i + ")", x.run(i), NONE);
        }
        x.sort(1, 1, 3, 0);
        c.runs("one run", x, 5);
        c.due("one run: run(4)", x.run(4), NONE);
        c.due("no such budget", x.sort(0, 0, 2, 0), NONE);
        c.runs("refused", x, 5);
        Check.fillFalling(x, 2, 7);
        c.due("FULL", x.sort(2, 2, 3, 0), -2);
        c.runs("refused", x, 5);
        x.sort(3, 3, 3, 0);
        c.runs("of nothing", x);
    }
}
