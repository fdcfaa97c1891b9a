import java.util.List;

/** Promise 4. */
final class SortSentences {
    private static final int NONE = -1;
    private static final int FULL = -2;

    static List<Sentence> all() {
        return List.of(
            Sentence.of("Promise 4",
                "A file is sorted with a BUDGET, in a mode (0 .. 2), to a file (itself, too): how many records that has.",
                SortSentences::sortCounts,
                Sentence.fault("how many pages", (p, r) -> new Model(p, r) {
                    @Override
                    public int sort(int from, int to, int budget, int mode) {
                        int count = super.sort(from, to, budget, mode);
                        return count < 0 ? count : pagesOf(count);
                    }
                }),
                Sentence.fault("not to itself", (p, r) -> new Model(p, r) {
                    @Override
                    public int sort(int from, int to, int budget, int mode) {
                        return from == to ? NONE : super.sort(from, to, budget, mode);
                    }
                }),
                Sentence.fault("like records are dropped in mode 1", (p, r) -> new Model(p, r) {
                    @Override
                    public int sort(int from, int to, int budget, int mode) {
                        return mode == 1 ? distinct(from, to, budget) : super.sort(from, to, budget, mode);
                    }
                })),
            Sentence.of("Promise 4",
                "A file is sorted with a BUDGET, in a mode (0 .. 2), to a file (itself, too): how many records that has.",
                SortSentences::modesThatAre,
                Sentence.fault("no mode 0", (p, r) -> withModes(p, r, 1, 2)),
                Sentence.fault("no mode 2", (p, r) -> withModes(p, r, 0, 1))),
            Sentence.of("Promise 4", "NONE: no such file, BUDGET, mode;", SortSentences::modesThatAreNot,
                Sentence.fault("a mode 3", (p, r) -> withModes(p, r, 0, 3)),
                Sentence.fault("a mode -1", (p, r) -> withModes(p, r, -1, 2)),
                Sentence.fault("the file is empty then", (p, r) -> new Model(p, r) {
                    @Override
                    public int sort(int from, int to, int budget, int mode) {
                        int count = super.sort(from, to, budget, mode);
                        if (count == NONE) {
                            drop(to);
                        }
                        return count;
                    }
                })),
            Sentence.of("Promise 4", "NONE: no such file, BUDGET, mode;", SortSentences::refusedAheadOfFull,
                Sentence.fault("FULL is asked first", (p, r) -> new Model(p, r) {
                    @Override
                    public int sort(int from, int to, int budget, int mode) {
                        boolean full = isFile(from) && pagesOf(size(from)) > free();
                        return full ? FULL : super.sort(from, to, budget, mode);
                    }
                }),
                Sentence.fault("the BUDGET is not asked for an empty file", (p, r) -> new Model(p, r) {
                    @Override
                    public int sort(int from, int to, int budget, int mode) {
                        return size(from) == 0 && isFile(to) ? 0 : super.sort(from, to, budget, mode);
                    }
                })),
            Sentence.of("Promise 4", "-2 FULL.", SortSentences::fullIsMinusTwo,
                Sentence.fault("NONE", (p, r) -> new Model(p, r) {
                    @Override
                    public int sort(int from, int to, int budget, int mode) {
                        return Math.max(NONE, super.sort(from, to, budget, mode));
                    }
                })));
    }

    private static Model withModes(int pageCount, int recordCount, int least, int most) {
        return new Model(pageCount, recordCount) {
            @Override
            boolean isMode(int mode) {
                return mode >= least && mode <= most;
            }
        };
    }

    private static void sortCounts(Check c) {
        for (int count = 0; count <= 9; count++) {
            Face x = c.make(60, 2);
            Check.fillAlike(x, 0, 7, count);
            c.due("to another: " + count, x.sort(0, 5, 3, 0), count);
            c.due("to itself: " + count, x.sort(5, 5, 3, 2), count);
            c.due("the other: " + count, x.size(0), count);
            c.due("itself: " + count, x.size(5), count);
        }
        Face x = c.make(60, 2);
        Check.fill(x, 0, 2, 2, 1, 1, 2, 2, 1, 1);
        c.due("what is there twice stays", x.sort(0, 0, 3, 1), 4);
        c.file("what is there twice stays", x, 0, 1, 1, 1, 1, 2, 2, 2, 2);
    }

    private static void modesThatAre(Check c) {
        Face x = c.make(60, 2);
        Check.fill(x, 0, 2, 2, 1, 9, 3, 3, 1, 1);
        c.due("mode 0", x.sort(0, 1, 3, 0), 4);
        c.file("mode 0", x, 1, 1, 9, 1, 1, 2, 2, 3, 3);
        c.due("mode 1", x.sort(0, 1, 3, 1), 4);
        c.file("mode 1", x, 1, 1, 1, 1, 9, 2, 2, 3, 3);
        c.due("mode 2", x.sort(0, 1, 3, 2), 4);
        c.file("mode 2", x, 1, 3, 3, 2, 2, 1, 9, 1, 1);
    }

    private static void modesThatAreNot(Check c) {
        Face x = c.make(60, 2);
        Check.fill(x, 0, 2, 2, 1, 9);
        Check.fill(x, 1, 7, 7);
        for (int mode : new int[] {-1, 3, 4, -2, Integer.MIN_VALUE, Integer.MAX_VALUE}) {
            c.due("mode " + mode, x.sort(0, 1, 3, mode), NONE);
            c.due("mode " + mode + " to itself", x.sort(0, 0, 3, mode), NONE);
        }
        c.due("from 6", x.sort(6, 1, 3, 0), NONE);
        c.due("to 6", x.sort(1, 6, 3, 0), NONE);
        c.due("budget 2", x.sort(0, 1, 2, 0), NONE);
        c.due("budget 17", x.sort(0, 1, 17, 0), NONE);
        c.file("as before", x, 0, 2, 2, 1, 9);
        c.file("as before", x, 1, 7, 7);
        c.told("nothing is done", x, 0, 0, 0, 0, 0, 0, 58);
    }

    private static void refusedAheadOfFull(Check c) {
        Face x = c.make(1, 1);
        Check.fill(x, 0, 1, 1);
        c.due("mode 3 on a full disk", x.sort(0, 0, 3, 3), NONE);
        c.due("budget 2 on a full disk", x.sort(0, 0, 2, 0), NONE);
        c.due("budget 17 on a full disk", x.sort(0, 0, 17, 0), NONE);
        c.due("to 6 on a full disk", x.sort(0, 6, 3, 0), NONE);
        c.due("mode 3 of an empty file", x.sort(1, 1, 3, 3), NONE);
        c.due("budget 2 of an empty file", x.sort(1, 1, 2, 0), NONE);
        c.due("to -1 of an empty file", x.sort(1, -1, 3, 0), NONE);
    }

    private static void fullIsMinusTwo(Check c) {
        for (int mode = 0; mode <= 2; mode++) {
            Face x = c.make(5, 2);
            Check.fillAlike(x, 0, 3, 6);
            c.due("two pages for three", x.sort(0, 0, 3, mode), FULL);
            c.due("two pages for three", x.sort(0, 1, 16, mode), FULL);
            x.drop(0);
            Check.fillAlike(x, 0, 3, 4);
            c.due("three pages for two", x.sort(0, 0, 3, mode), 4);
        }
    }
}
