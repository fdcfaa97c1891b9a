import java.util.List;

/** What the terms say of distinct(), and promise 5. */
final class DistinctSentences {
    private static final int NONE = -1;
    private static final int FULL = -2;

    static List<Sentence> all() {
        String notWritten = "but that a record is not written to a run, nor in merging, that is the same as the one"
            + " that was written to it last";
        return List.of(
            Sentence.of("Terms", "distinct() is sorting in mode 1,", DistinctSentences::inModeOne,
                Sentence.fault("in mode 0", (p, r) -> new Model(p, r) {
                    @Override
                    public int distinct(int from, int to, int budget) {
                        boolean right = isFile(from) && isFile(to) && isBudget(budget);
                        return right ? sorted(from, to, budget, 0, true) : NONE;
                    }
                }),
                Sentence.fault("in mode 2", (p, r) -> new Model(p, r) {
                    @Override
                    public int distinct(int from, int to, int budget) {
                        boolean right = isFile(from) && isFile(to) && isBudget(budget);
                        return right ? sorted(from, to, budget, 2, true) : NONE;
                    }
                })),
            Sentence.of("Terms", notWritten, DistinctSentences::notWrittenToARun,
                Sentence.fault("it is, and gone only in merging", (p, r) -> new Model(p, r) {
                    @Override
                    boolean isGoneInRuns(List<int[]> run, int[] record) {
                        return false;
                    }
                })),
            Sentence.of("Terms", notWritten, DistinctSentences::notWrittenInMerging,
                Sentence.fault("it is, and gone only in runs", (p, r) -> new Model(p, r) {
                    @Override
                    boolean isGoneInMerging(List<int[]> run, int[] record) {
                        return false;
                    }
                }),
                Sentence.fault("gone only in the last pass", (p, r) -> new Model(p, r) {
                    private boolean last;

                    @Override
                    List<List<int[]>> pass(List<List<int[]>> runs, int width, int mode, boolean once)
                            throws Refused {
                        last = runs.size() <= width;
                        return super.pass(runs, width, mode, once);
                    }

                    @Override
                    boolean isGoneInMerging(List<int[]> run, int[] record) {
                        return last && super.isGoneInMerging(run, record);
                    }
                })),
            Sentence.of("Terms", notWritten, DistinctSentences::sameKeyAndTag,
                Sentence.fault("the same key will do", (p, r) -> new Model(p, r) {
                    @Override
                    boolean isSame(int[] one, int[] other) {
                        return one[0] == other[0];
                    }
                }),
                Sentence.fault("the same tag will do", (p, r) -> new Model(p, r) {
                    @Override
                    boolean isSame(int[] one, int[] other) {
                        return one[1] == other[1];
                    }
                })),
            Sentence.of("Terms", notWritten, DistinctSentences::firstOfARun,
                Sentence.fault("0, 0 is the same as nothing", (p, r) -> new Model(p, r) {
                    @Override
                    boolean isGoneInMerging(List<int[]> run, int[] record) {
                        return run.isEmpty() ? isSame(record, new int[2]) : super.isGoneInMerging(run, record);
                    }
                }),
                Sentence.fault("0, 0 is the same as nothing in RUNS", (p, r) -> new Model(p, r) {
                    @Override
                    List<List<int[]>> makeRuns(List<int[]> file, int room, int mode, boolean once) throws Refused {
                        List<int[]> others = file.stream().filter(record -> !isSame(record, new int[2])).toList();
                        return super.makeRuns(once ? others : file, room, mode, once);
                    }
                })),
            Sentence.of("Terms", "(it is gone; in RUNS one is taken from the file for it all the same, held against the"
                    + " one written last).",
                DistinctSentences::oneIsTakenForIt,
                Sentence.fault("none is taken for it", (p, r) -> new Model(p, r) {
                    @Override
                    boolean isTakenForWhatIsGone() {
                        return false;
                    }
                }),
                Sentence.fault("held against nothing", (p, r) -> new Model(p, r) {
                    private boolean gone;

                    @Override
                    boolean isGoneInRuns(List<int[]> run, int[] record) {
                        gone = super.isGoneInRuns(run, record);
                        return gone;
                    }

                    @Override
                    boolean isForNextRun(int mode, int[] next, int[] written) {
                        return !gone && super.isForNextRun(mode, next, written);
                    }
                }),
                Sentence.fault("for the next run always", (p, r) -> new Model(p, r) {
                    private boolean gone;

                    @Override
                    boolean isGoneInRuns(List<int[]> run, int[] record) {
                        gone = super.isGoneInRuns(run, record);
                        return gone;
                    }

                    @Override
                    boolean isForNextRun(int mode, int[] next, int[] written) {
                        return gone || super.isForNextRun(mode, next, written);
                    }
                })),
            Sentence.of("Promise 5", "A file's records, each once, in the ORDER of mode 1, come to a file: how many.",
                DistinctSentences::howManyOnce,
                Sentence.fault("how many there were", (p, r) -> new Model(p, r) {
                    @Override
                    public int distinct(int from, int to, int budget) {
                        int before = size(from);
                        return super.distinct(from, to, budget) < 0 ? NONE : before;
                    }
                }),
                Sentence.fault("how many are gone", (p, r) -> new Model(p, r) {
                    @Override
                    public int distinct(int from, int to, int budget) {
                        int before = size(from);
                        int count = super.distinct(from, to, budget);
                        return count < 0 ? count : before - count;
                    }
                }),
                Sentence.fault("one is left of each key", (p, r) -> new Model(p, r) {
                    @Override
                    boolean isSame(int[] one, int[] other) {
                        return one[0] == other[0];
                    }
                })),
            Sentence.of("Promise 5", "Otherwise as sort().", DistinctSentences::refusedAsSort,
                Sentence.fault("budget 2 will do", (p, r) -> new Model(p, r) {
                    @Override
                    public int distinct(int from, int to, int budget) {
                        return super.distinct(from, to, budget == 2 ? 3 : budget);
                    }
                }),
                Sentence.fault("budget 17 will do", (p, r) -> new Model(p, r) {
                    @Override
                    public int distinct(int from, int to, int budget) {
                        return super.distinct(from, to, budget == 17 ? 16 : budget);
                    }
                }),
                Sentence.fault("a file 6 is 5", (p, r) -> new Model(p, r) {
                    @Override
                    public int distinct(int from, int to, int budget) {
                        return super.distinct(from, Math.min(5, to), budget);
                    }
                })),
            Sentence.of("Promise 5", "Otherwise as sort().", DistinctSentences::fullAsSort,
                Sentence.fault("FULL is NONE", (p, r) -> new Model(p, r) {
                    @Override
                    public int distinct(int from, int to, int budget) {
                        return Math.max(NONE, super.distinct(from, to, budget));
                    }
                }),
                Sentence.fault("FULL if all had no room", (p, r) -> new Model(p, r) {
                    @Override
                    public int distinct(int from, int to, int budget) {
                        return pagesOf(size(from)) > free() ? FULL : super.distinct(from, to, budget);
                    }
                })));
    }

    private static void inModeOne(Check c) {
        for (int budget = 3; budget <= 16; budget++) {
            Face x = c.make(60, 1);
            Check.fill(x, 0, 2, 9, 1, 8, 2, 7, 1, 6, 2, 9, 1, 8, 2, 7);
            c.due("budget " + budget, x.distinct(0, 1, budget), 4);
            c.file("budget " + budget, x, 1, 1, 6, 1, 8, 2, 7, 2, 9);
        }
    }

    private static void notWrittenToARun(Check c) {
        // one run: 1 1 2 of six, which have room in one page
        Face x = c.make(40, 2);
        Check.fill(x, 0, 1, 1, 1, 1, 1, 1, 2, 2, 1, 1, 2, 2);
        c.due("one run", x.distinct(0, 1, 16), 2);
        c.told("one run", x, 4, 3, 1, 1, 0, 4, 36);
        c.runs("one run", x, 2);
        c.due("nothing is the same then", x.distinct(1, 1, 3), 2);
        // what is the same comes to the run as the last one of it is taken
        Face y = c.make(40, 1);
        Check.fillAlike(y, 0, 3, 1);
        for (int i = 0; i < 9; i++) {
            y.append(0, 3, 1);
        }
        c.due("ten times the same", y.distinct(0, 1, 3), 1);
        c.told("ten times the same", y, 11, 10, 1, 1, 0, 11, 29);
        c.runs("ten times the same", y, 1);
    }

    private static void notWrittenInMerging(Check c) {
        // the runs 3 4 and 1 3 4
        Face x = c.make(40, 2);
        Check.fill(x, 0, 3, 0, 4, 0, 1, 0, 3, 0, 1, 0, 4, 0);
        c.due("two runs", x.distinct(0, 0, 3), 3);
        c.file("two runs", x, 0, 1, 0, 3, 0, 4, 0);
        c.runs("two runs", x, 2, 3);
        c.told("two runs", x, 11, 6, 5, 2, 1, 6, 38);
        // the runs 2, 1 2, 1 2 and 1: merged to 1 2 and 1 2, then to 1 2
        Face y = c.make(40, 1);
        Check.fill(y, 0, 2, 0, 1, 0, 2, 0, 1, 0, 2, 0, 1, 0);
        c.due("four runs", y.distinct(0, 1, 3), 2);
        c.runs("four runs", y, 1, 2, 2, 1);
        // read: 6 of the file, 6, then 4; written: 6, 4, then 2
        c.told("four runs", y, 28, 16, 12, 4, 2, 12, 32);
        c.file("four runs", y, 1, 1, 0, 2, 0);
    }

    private static void sameKeyAndTag(Check c) {
        for (int budget = 3; budget <= 8; budget++) {
            Face x = c.make(60, 1);
            Check.fill(x, 0, 1, 2, 1, 1, 2, 2, 2, 1, 1, 2, 3, 2);
            c.due("budget " + budget, x.distinct(0, 1, budget), 5);
            c.file("budget " + budget, x, 1, 1, 1, 1, 2, 2, 1, 2, 2, 3, 2);
        }
    }

    private static void firstOfARun(Check c) {
        Face x = c.make(60, 1);
        Check.fill(x, 0, 0, 0, 0, 0);
        c.due("zeros", x.distinct(0, 1, 3), 1);
        c.file("zeros", x, 1, 0, 0);
        // the runs 0 5, 0 5 and 0: 0, 0 is the first of each, and of what is merged
        Check.fill(x, 2, 0, 0, 5, 5, 0, 0, 5, 5, 0, 0);
        c.due("zeros in merging", x.distinct(2, 3, 3), 2);
        c.runs("zeros in merging", x, 2, 2, 1);
        c.file("zeros in merging", x, 3, 0, 0, 5, 5);
        // what was written by an earlier call does not count
        Check.fill(x, 4, 5, 5);
        c.due("the last of the call ahead", x.distinct(4, 5, 3), 1);
        c.file("the last of the call ahead", x, 5, 5, 5);
        c.due("again", x.distinct(4, 5, 3), 1);
    }

    private static void oneIsTakenForIt(Check c) {
        // H is 1: two of the 2s are gone; 1 stands ahead of the one that was written, 3 does not of 1
        Face x = c.make(40, 1);
        Check.fill(x, 0, 2, 0, 2, 0, 2, 0, 1, 0, 3, 0);
        c.due("H is 1", x.distinct(0, 1, 3), 3);
        c.runs("H is 1", x, 1, 2);
        c.file("H is 1", x, 1, 1, 0, 2, 0, 3, 0);
        // H is 2: for the second 4 comes 5, to the run at hand, which 3 can't come to
        Face y = c.make(40, 1);
        Check.fill(y, 0, 4, 0, 4, 0, 9, 0, 5, 0, 3, 0, 6, 0);
        c.due("H is 2", y.distinct(0, 1, 4), 5);
        c.runs("H is 2", y, 3, 2);
        c.file("H is 2", y, 1, 3, 0, 4, 0, 5, 0, 6, 0, 9, 0);
        // what is alike is for the run at hand, and is gone in its turn
        Face z = c.make(40, 1);
        Check.fill(z, 0, 4, 0, 4, 0, 4, 0, 4, 0, 5, 0);
        c.due("alike", z.distinct(0, 1, 3), 2);
        c.runs("alike", z, 2);
    }

    private static void howManyOnce(Check c) {
        Face x = c.make(60, 2);
        Check.fill(x, 0, 3, 1, 1, 1, 3, 1, 1, 2, 1, 1, 3, 1);
        c.due("to another", x.distinct(0, 5, 3), 3);
        c.file("to another", x, 5, 1, 1, 1, 2, 3, 1);
        c.file("the file stays", x, 0, 3, 1, 1, 1, 3, 1, 1, 2, 1, 1, 3, 1);
        c.due("to itself", x.distinct(0, 0, 3), 3);
        c.file("to itself", x, 0, 1, 1, 1, 2, 3, 1);
        c.due("again", x.distinct(0, 0, 3), 3);
        c.due("of nothing", x.distinct(4, 0, 3), 0);
        c.due("of nothing", x.size(0), 0);
    }

    private static void refusedAsSort(Check c) {
        Face x = c.make(1, 1);
        Check.fill(x, 5, 1, 1);
        for (int file : new int[] {-1, 6, Integer.MIN_VALUE, Integer.MAX_VALUE}) {
            c.due("from " + file, x.distinct(file, 5, 3), NONE);
            c.due("to " + file, x.distinct(5, file, 3), NONE);
            c.due("of nothing, to " + file, x.distinct(0, file, 3), NONE);
        }
        for (int budget : new int[] {2, 17, 0, -1, Integer.MIN_VALUE, Integer.MAX_VALUE}) {
            c.due("budget " + budget, x.distinct(5, 5, budget), NONE);
            c.due("of nothing, budget " + budget, x.distinct(0, 0, budget), NONE);
        }
        c.file("as before", x, 5, 1, 1);
        c.told("nothing is done", x, 0, 0, 0, 0, 0, 0, 0);
    }

    private static void fullAsSort(Check c) {
        Face x = c.make(4, 1);
        Check.fill(x, 0, 1, 1, 1, 1, 1, 1);
        c.due("a page is enough for what is left", x.distinct(0, 1, 3), 1);
        c.due("no page is FREE", x.distinct(0, 1, 3), FULL);
        c.due("no page is FREE", x.distinct(0, 0, 3), FULL);
        c.file("as before", x, 0, 1, 1, 1, 1, 1, 1);
        c.file("as before", x, 1, 1, 1);
        c.told("as before", x, 4, 3, 1, 1, 0, 4, 0);
    }
}
