import java.util.ArrayList;
import java.util.List;

/** The terms of SORTING: PASSES, FULL, and the file that it comes to. */
final class MergeSentences {
    private static final int FULL = -2;
    /** With two in memory: the runs 1 2 3 4 5 and 1 2 3. */
    private static final int[] FIVE_AND_THREE = {1, 1, 2, 2, 3, 3, 4, 4, 5, 5, 1, 6, 2, 7, 3, 8};

    static List<Sentence> all() {
        List<Sentence> all = new ArrayList<>();
        all.addAll(passes());
        all.addAll(merging());
        all.addAll(whatIsLeft());
        all.addAll(fullDisk());
        all.addAll(oldPages());
        return all;
    }

    private static List<Sentence> passes() {
        return List.of(
            Sentence.of("Terms", "PASSES: as long as there is more than one run:", MergeSentences::howManyPasses,
                Sentence.fault("one run is passed, too", (p, r) -> new Model(p, r) {
                    @Override
                    List<int[]> arrange(List<int[]> file, int budget, int mode, boolean once) throws Refused {
                        List<int[]> sorted = super.arrange(file, budget, mode, once);
                        passes += lengths.size() == 1 ? 1 : 0;
                        return sorted;
                    }
                }),
                Sentence.fault("two runs are left", (p, r) -> new Model(p, r) {
                    @Override
                    boolean wantsPass(int runs) {
                        return runs > 2;
                    }
                })),
            Sentence.of("Terms",
                "the first b - 1 (or all that are left) are merged to one, the next b - 1, and so on",
                MergeSentences::widthOfMerging,
                Sentence.fault("b at a time", (p, r) -> new Model(p, r) {
                    @Override
                    int widthOf(int budget) {
                        return budget;
                    }
                }),
                Sentence.fault("b - 2 at a time", (p, r) -> new Model(p, r) {
                    @Override
                    int widthOf(int budget) {
                        return Math.max(2, budget - 2);
                    }
                }),
                Sentence.fault("the last b - 1 first", (p, r) -> new Model(p, r) {
                    @Override
                    List<List<int[]>> pass(List<List<int[]>> runs, int width, int mode, boolean once)
                            throws Refused {
                        int first = runs.size() % width;
                        List<List<int[]>> merged = new ArrayList<>();
                        if (first > 0) {
                            merged.addAll(super.pass(runs.subList(0, first), width, mode, once));
                        }
                        merged.addAll(super.pass(runs.subList(first, runs.size()), width, mode, once));
                        return merged;
                    }
                }),
                Sentence.fault("one merging is a pass", (p, r) -> new Model(p, r) {
                    @Override
                    List<int[]> merge(List<List<int[]>> group, int mode, boolean once) throws Refused {
                        passes++;
                        return super.merge(group, mode, once);
                    }
                })),
            Sentence.of("Terms", "(one that is left alone stays as it is).", MergeSentences::leftAlone,
                Sentence.fault("it is read and written", (p, r) -> new Model(p, r) {
                    @Override
                    List<int[]> alone(List<int[]> run) {
                        reads += pagesOf(run.size());
                        writes += pagesOf(run.size());
                        return run;
                    }
                }),
                Sentence.fault("it comes first in the next pass", (p, r) -> new Model(p, r) {
                    @Override
                    List<List<int[]>> pass(List<List<int[]>> runs, int width, int mode, boolean once)
                            throws Refused {
                        List<List<int[]>> merged = super.pass(runs, width, mode, once);
                        if (runs.size() % width == 1) {
                            merged.add(0, merged.remove(merged.size() - 1));
                        }
                        return merged;
                    }
                }),
                Sentence.fault("it is lost", (p, r) -> new Model(p, r) {
                    @Override
                    List<int[]> alone(List<int[]> run) {
                        return new ArrayList<>();
                    }
                })));
    }

    private static List<Sentence> merging() {
        return List.of(
            Sentence.of("Terms", "Merging: the first page of each is read, in their order;",
                MergeSentences::firstPagesAreRead,
                Sentence.fault("they do not count", (p, r) -> new Model(p, r) {
                    @Override
                    List<int[]> merge(List<List<int[]>> group, int mode, boolean once) throws Refused {
                        reads -= group.size();
                        return super.merge(group, mode, once);
                    }
                }),
                Sentence.fault("all but the last", (p, r) -> new Model(p, r) {
                    @Override
                    List<int[]> merge(List<List<int[]>> group, int mode, boolean once) throws Refused {
                        reads--;
                        return super.merge(group, mode, once);
                    }
                })),
            Sentence.of("Terms", "then always the first record in the ORDER (alike: of the earlier run) is written;",
                MergeSentences::firstOfTheRuns,
                Sentence.fault("alike: of the later run", (p, r) -> new Model(p, r) {
                    @Override
                    int firstRun(List<List<int[]>> group, int[] at, int mode) {
                        int first = super.firstRun(group, at, mode);
                        for (int i = first + 1; first != NONE && i < at.length; i++) {
                            boolean left = at[i] < group.get(i).size();
                            if (left && compare(mode, group.get(i).get(at[i]), group.get(first).get(at[first])) == 0) {
                                first = i;
                            }
                        }
                        return first;
                    }
                }),
                Sentence.fault("in mode 0 always", (p, r) -> new Model(p, r) {
                    @Override
                    int firstRun(List<List<int[]>> group, int[] at, int mode) {
                        return super.firstRun(group, at, 0);
                    }
                }),
                Sentence.fault("one run behind the other", (p, r) -> new Model(p, r) {
                    @Override
                    int firstRun(List<List<int[]>> group, int[] at, int mode) {
                        for (int i = 0; i < at.length; i++) {
                            if (at[i] < group.get(i).size()) {
                                return i;
                            }
                        }
                        return NONE;
                    }
                })),
            Sentence.of("Terms", "a run's next page is read as soon as the last record of the one ahead is taken"
                    + " (ahead of its being written);",
                MergeSentences::nextPagesAreRead,
                Sentence.fault("one more behind the last full page", (p, r) -> new Model(p, r) {
                    @Override
                    boolean hasNextPage(List<int[]> run, int taken) {
                        return taken % records == 0;
                    }
                }),
                Sentence.fault("the last page is not", (p, r) -> new Model(p, r) {
                    @Override
                    boolean hasNextPage(List<int[]> run, int taken) {
                        return taken % records == 0 && taken + records < run.size();
                    }
                }),
                Sentence.fault("for each record", (p, r) -> new Model(p, r) {
                    @Override
                    boolean hasNextPage(List<int[]> run, int taken) {
                        return taken < run.size();
                    }
                })),
            Sentence.of("Terms", "each page that was read is FREE at once.", MergeSentences::freeAtOnce,
                Sentence.fault("as the merging ends", (p, r) -> new Model(p, r) {
                    private int read;

                    @Override
                    void readRunPage() {
                        reads++;
                        read++;
                    }

                    @Override
                    List<int[]> merge(List<List<int[]>> group, int mode, boolean once) throws Refused {
                        read = 0;
                        List<int[]> merged = super.merge(group, mode, once);
                        workPages -= read;
                        return merged;
                    }
                }),
                Sentence.fault("as its last record is taken", (p, r) -> new Model(p, r) {
                    @Override
                    void readRunPage() {
                        reads++;
                    }

                    @Override
                    boolean hasNextPage(List<int[]> run, int taken) {
                        workPages -= taken % records == 0 || taken == run.size() ? 1 : 0;
                        return super.hasNextPage(run, taken);
                    }
                }),
                Sentence.fault("as the pass ends", (p, r) -> new Model(p, r) {
                    private int read;

                    @Override
                    void readRunPage() {
                        reads++;
                        read++;
                    }

                    @Override
                    List<List<int[]>> pass(List<List<int[]>> runs, int width, int mode, boolean once)
                            throws Refused {
                        read = 0;
                        List<List<int[]>> merged = super.pass(runs, width, mode, once);
                        workPages -= read;
                        return merged;
                    }
                })),
            Sentence.of("Terms", "The merged run's page is written when it is full, or at the end.",
                MergeSentences::mergedPagesAreWritten,
                Sentence.fault("a page more behind a full one", (p, r) -> new Model(p, r) {
                    @Override
                    List<int[]> merge(List<List<int[]>> group, int mode, boolean once) throws Refused {
                        List<int[]> merged = super.merge(group, mode, once);
                        writes += merged.size() % records == 0 ? 1 : 0;
                        return merged;
                    }
                }),
                Sentence.fault("what is left at the end is not", (p, r) -> new Model(p, r) {
                    @Override
                    List<int[]> merge(List<List<int[]>> group, int mode, boolean once) throws Refused {
                        List<int[]> merged = super.merge(group, mode, once);
                        writes -= merged.size() % records == 0 ? 0 : 1;
                        return merged;
                    }
                }),
                Sentence.fault("as many as were read", (p, r) -> new Model(p, r) {
                    @Override
                    List<int[]> merge(List<List<int[]>> group, int mode, boolean once) throws Refused {
                        List<int[]> merged = super.merge(group, mode, once);
                        writes -= pagesOf(merged.size());
                        group.forEach(run -> writes += pagesOf(run.size()));
                        return merged;
                    }
                })));
    }

    private static List<Sentence> whatIsLeft() {
        return List.of(
            Sentence.of("Terms", "The run that is left is the sorted file (without records: no page).",
                MergeSentences::runThatIsLeft,
                Sentence.fault("it is copied to the file", (p, r) -> new Model(p, r) {
                    @Override
                    List<int[]> arrange(List<int[]> file, int budget, int mode, boolean once) throws Refused {
                        List<int[]> sorted = super.arrange(file, budget, mode, once);
                        reads += pagesOf(sorted.size());
                        writes += pagesOf(sorted.size());
                        return sorted;
                    }
                })),
            Sentence.of("Terms", "The run that is left is the sorted file (without records: no page).",
                MergeSentences::withoutRecordsNoPage,
                Sentence.fault("a page is written", (p, r) -> new Model(p, r) {
                    @Override
                    List<int[]> arrange(List<int[]> file, int budget, int mode, boolean once) throws Refused {
                        if (file.isEmpty()) {
                            writePage();
                        }
                        return super.arrange(file, budget, mode, once);
                    }
                }),
                Sentence.fault("a run without records", (p, r) -> new Model(p, r) {
                    @Override
                    List<int[]> arrange(List<int[]> file, int budget, int mode, boolean once) throws Refused {
                        if (file.isEmpty()) {
                            lengths.add(0);
                        }
                        return super.arrange(file, budget, mode, once);
                    }
                }),
                Sentence.fault("the file that it comes to stays", (p, r) -> new Model(p, r) {
                    @Override
                    int done(int to, List<int[]> result) {
                        return super.done(to, result.isEmpty() ? list(to) : result);
                    }
                })),
            Sentence.of("Terms", "Each page read, and each written, is a TRANSFER.", MergeSentences::transfers,
                Sentence.fault("only what is read", (p, r) -> new Model(p, r) {
                    @Override
                    public int told(int what) {
                        return super.told(what == 0 ? 1 : what);
                    }
                }),
                Sentence.fault("only what is written", (p, r) -> new Model(p, r) {
                    @Override
                    public int told(int what) {
                        return super.told(what == 0 ? 2 : what);
                    }
                })));
    }

    private static List<Sentence> fullDisk() {
        String quote = "A page that is written takes one that is FREE; where there is none the disk is FULL: all"
            + " files are as before.";
        return List.of(
            Sentence.of("Terms", quote, MergeSentences::theLastFreePage,
                Sentence.fault("FULL with one FREE page", (p, r) -> new Model(p, r) {
                    @Override
                    void writePage() throws Refused {
                        if (free() < 2) {
                            throw new Refused(FULL);
                        }
                        super.writePage();
                    }
                }),
                Sentence.fault("never FULL", (p, r) -> new Model(p, r) {
                    @Override
                    void writePage() {
                        workPages++;
                        writes++;
                        peak = Math.max(peak, pages - free());
                    }
                })),
            Sentence.of("Terms", quote, MergeSentences::filesAreAsBefore,
                Sentence.fault("the file that it was to come to is empty", (p, r) -> new Model(p, r) {
                    @Override
                    int failed(int to, int answer) {
                        list(to).clear();
                        return super.failed(to, answer);
                    }
                }),
                Sentence.fault("the pages of the runs stay", (p, r) -> new Model(p, r) {
                    private int lost;

                    @Override
                    int failed(int to, int answer) {
                        lost += workPages;
                        return super.failed(to, answer);
                    }

                    @Override
                    int free() {
                        return super.free() - lost;
                    }
                })),
            Sentence.of("Terms", quote, MergeSentences::nothingIsLeftOfIt,
                Sentence.fault("the next call begins with what was held", (p, r) -> new Model(p, r) {
                    private boolean refused;

                    @Override
                    int failed(int to, int answer) {
                        refused = true;
                        return super.failed(to, answer);
                    }

                    @Override
                    int done(int to, List<int[]> result) {
                        List<int[]> mixed = new ArrayList<>(result);
                        if (refused && !mixed.isEmpty()) {
                            mixed.set(0, new int[2]);
                        }
                        refused = false;
                        return super.done(to, mixed);
                    }
                }),
                Sentence.fault("the runs of the refused call are told", (p, r) -> new Model(p, r) {
                    private List<Integer> left = new ArrayList<>();

                    @Override
                    int failed(int to, int answer) {
                        left = lengths;
                        return super.failed(to, answer);
                    }

                    @Override
                    int done(int to, List<int[]> result) {
                        lengths.addAll(0, left);
                        left = new ArrayList<>();
                        return super.done(to, result);
                    }
                })));
    }

    private static List<Sentence> oldPages() {
        String quote = "==== The file that it comes to gets the new records as all is done; its old pages (also of the"
            + " file itself that was sorted) are FREE then, not ahead.";
        Sentence.Fault ahead = Sentence.fault("they are FREE ahead", (p, r) -> new Model(p, r) {
            private int gone;

            @Override
            void begin(int to) {
                gone = pagesOf(size(to));
                super.begin(to);
            }

            @Override
            int free() {
                return super.free() + gone;
            }

            @Override
            int failed(int to, int answer) {
                gone = 0;
                return super.failed(to, answer);
            }

            @Override
            int done(int to, List<int[]> result) {
                gone = 0;
                return super.done(to, result);
            }
        });
        Sentence.Fault never = Sentence.fault("they are not FREE then", (p, r) -> new Model(p, r) {
            private int kept;

            @Override
            int done(int to, List<int[]> result) {
                kept += pagesOf(size(to));
                return super.done(to, result);
            }

            @Override
            int free() {
                return super.free() - kept;
            }
        });
        Sentence.Fault behind = Sentence.fault("the new records come behind the old ones", (p, r) -> new Model(p, r) {
            @Override
            int done(int to, List<int[]> result) {
                List<int[]> both = new ArrayList<>(list(to));
                both.addAll(result);
                return super.done(to, both);
            }
        });
        return List.of(
            Sentence.of("Terms", quote, MergeSentences::sortedToItself, ahead, never, behind),
            Sentence.of("Terms", quote, MergeSentences::sortedToAnother, ahead, never, behind),
            Sentence.of("Terms", quote, MergeSentences::distinctToItself, ahead, never, behind),
            Sentence.of("Terms", quote, MergeSentences::joinedToOneOfTheTwo, ahead, never, behind),
            Sentence.of("Terms", quote, MergeSentences::joinedToAnother, ahead, never, behind));
    }

    private static void howManyPasses(Check c) {
        int[] passes = {0, 0, 1, 2, 2, 3, 3, 3, 3, 4};
        for (int runs = 0; runs < passes.length; runs++) {
            Face x = c.make(40, 1);
            Check.fillFalling(x, 0, runs);
            c.due(runs + " runs", x.sort(0, 1, 3, 0), runs);
            c.due(runs + " runs", x.told(3), runs);
            c.due("passes of " + runs + " runs", x.told(4), passes[runs]);
        }
        Face x = c.make(40, 1);
        Check.fillRising(x, 0, 9);
        x.sort(0, 1, 3, 0);
        c.told("one run", x, 18, 9, 9, 1, 0, 18);
    }

    private static void widthOfMerging(Check c) {
        for (int budget = 3; budget <= 16; budget++) {
            int width = budget - 1;
            int room = budget - 2;
            // width runs are merged at once
            merges(c, budget, width * room, width, 1, 4 * width * room);
            // one run of one record more: it is alone in the first pass
            int count = width * room + 1;
            merges(c, budget, count, width + 1, 2, 4 * count + 2 * width * room);
            // two runs more are merged with one another
            count = width * room + room + 1;
            merges(c, budget, count, width + 2, 2, 6 * count);
            // twice width runs
            count = 2 * width * room;
            merges(c, budget, count, 2 * width, 2, 6 * count);
        }
    }

    /** Falling keys, a record a page: each run but the last has as many as are in memory. */
    private static void merges(Check c, int budget, int count, int runs, int passes, int transfers) {
        if (2 * count > 512) {
            return;
        }
        Face x = c.make(512, 1);
        Check.fillFalling(x, 0, count);
        String when = count + " records with " + budget;
        c.due(when, x.sort(0, 1, budget, 0), count);
        c.told(when, x, transfers, transfers / 2, transfers / 2, runs, passes);
        for (int i = 0; i < count; i++) {
            c.due(when + ": record " + i, x.tag(1, i), count - i);
        }
    }

    private static void leftAlone(Check c) {
        Face x = c.make(40, 1);
        Check.fillFalling(x, 0, 5);
        c.due("five runs", x.sort(0, 1, 3, 0), 5);
        // the last run is alone in two passes: 5, 4, 4 and 5 pages are read and written
        c.told("five runs", x, 36, 18, 18, 5, 3, 10, 30);
        c.file("five runs", x, 1, -5, 5, -4, 4, -3, 3, -2, 2, -1, 1);
        // the runs 5, 4 5 and 4 5: the last one is alone, and stays behind those that are merged
        Check.fill(x, 2, 5, 1, 4, 2, 5, 3, 4, 4, 5, 5);
        c.due("three runs", x.sort(2, 3, 3, 0), 5);
        c.runs("three runs", x, 1, 2, 2);
        c.told("three runs", x, 26, 13, 13, 3, 2, 20, 20);
        c.file("three runs", x, 3, 4, 2, 4, 4, 5, 1, 5, 3, 5, 5);
    }

    private static void firstPagesAreRead(Check c) {
        // runs of one page each: what is read is the file, and the first pages
        for (int budget = 3; budget <= 16; budget++) {
            int runs = budget - 1;
            Face x = c.make(512, 1);
            Check.fillFalling(x, 0, runs * (budget - 2));
            int pages = runs * (budget - 2);
            x.sort(0, 1, budget, 0);
            c.due("pages read with " + budget, x.told(1), 2 * pages);
        }
        Face x = c.make(40, 2);
        Check.fillFalling(x, 0, 4);
        x.sort(0, 1, 3, 0);
        c.told("two runs of a page", x, 8, 4, 4, 2, 1, 4);
    }

    private static void firstOfTheRuns(Check c) {
        Face x = c.make(90, 1);
        // the runs 3 5 5 and 1 3 5: of like keys those of the earlier run come first
        Check.fill(x, 0, 3, 9, 5, 8, 5, 7, 1, 6, 3, 5, 5, 4);
        c.due("mode 0", x.sort(0, 1, 3, 0), 6);
        c.runs("mode 0", x, 3, 3);
        c.file("mode 0", x, 1, 1, 6, 3, 9, 3, 5, 5, 8, 5, 7, 5, 4);
        x.sort(0, 1, 3, 1);
        c.file("mode 1", x, 1, 1, 6, 3, 5, 3, 9, 5, 4, 5, 7, 5, 8);
        // the runs 5 3 and 5 1 and 5 5 3: falling
        Check.fill(x, 2, 5, 1, 3, 2, 5, 3, 1, 4, 5, 5, 5, 6, 3, 7);
        x.sort(2, 1, 3, 2);
        c.runs("mode 2", x, 2, 2, 3);
        c.file("mode 2", x, 1, 5, 1, 5, 3, 5, 5, 5, 6, 3, 2, 3, 7, 1, 4);
    }

    private static void nextPagesAreRead(Check c) {
        // 4 pages of the file; runs of 3 and 2 pages, whose last ones have one record
        Face x = c.make(40, 2);
        Check.fill(x, 0, FIVE_AND_THREE);
        x.sort(0, 1, 3, 0);
        c.runs("5 and 3", x, 5, 3);
        c.told("5 and 3", x, 18, 9, 9, 2, 1, 9);
        c.file("5 and 3", x, 1, 1, 1, 1, 6, 2, 2, 2, 7, 3, 3, 3, 8, 4, 4, 5, 5);
        // runs of 2 pages, all full: no page is read behind the second
        Face y = c.make(40, 2);
        Check.fill(y, 0, 1, 1, 2, 2, 3, 3, 4, 4, 1, 5, 2, 6, 3, 7, 4, 8);
        y.sort(0, 1, 3, 0);
        c.runs("4 and 4", y, 4, 4);
        c.told("4 and 4", y, 16, 8, 8, 2, 1, 8);
        // the first run is used up ahead of the second's first record
        Face z = c.make(40, 1);
        Check.fill(z, 0, 3, 0, 4, 0, 5, 0, 1, 0, 2, 0);
        z.sort(0, 1, 3, 0);
        c.runs("3 and 2", z, 3, 2);
        c.told("3 and 2", z, 20, 10, 10, 2, 1, 10);
        c.file("3 and 2", z, 1, 1, 0, 2, 0, 3, 0, 4, 0, 5, 0);
    }

    private static void freeAtOnce(Check c) {
        // 4 pages of the file and 5 of the runs: no page is FREE as the merging begins
        Face x = c.make(9, 2);
        Check.fill(x, 0, FIVE_AND_THREE);
        c.due("5 and 3 on 9 pages", x.sort(0, 1, 3, 0), 8);
        c.due("5 and 3 on 9 pages", x.told(5), 9);
        c.file("5 and 3 on 9 pages", x, 1, 1, 1, 1, 6, 2, 2, 2, 7, 3, 3, 3, 8, 4, 4, 5, 5);
        Face y = c.make(8, 2);
        Check.fill(y, 0, FIVE_AND_THREE);
        c.due("5 and 3 on 8 pages", y.sort(0, 1, 3, 0), FULL);
        // four passes over a disk that is full at the begin of each
        Face z = c.make(18, 1);
        Check.fillFalling(z, 0, 9);
        c.due("nine runs on 18 pages", z.sort(0, 0, 3, 0), 9);
        c.told("nine runs on 18 pages", z, 18 + 16 + 16 + 16 + 18, 42, 42, 9, 4, 18, 9);
        // with more room the most pages in use are no more
        Face more = c.make(40, 1);
        Check.fillFalling(more, 0, 9);
        more.sort(0, 0, 3, 0);
        c.due("nine runs on 40 pages", more.told(5), 18);
    }

    private static void mergedPagesAreWritten(Check c) {
        // two in memory and a page: pages written by runs and by each pass
        int[] written = {0, 1, 1, 2 + 2, 2 + 2, 3 + 2 + 3, 3 + 2 + 3, 4 + 2 + 2 + 4, 4 + 2 + 2 + 4};
        for (int count = 0; count < written.length; count++) {
            Face x = c.make(40, 2);
            Check.fillFalling(x, 0, count);
            x.sort(0, 1, 3, 0);
            c.due("pages written of " + count, x.told(2), written[count]);
            c.due("FREE behind " + count, x.told(6), 40 - 2 * ((count + 1) / 2));
        }
        // 5 and 3 records, in 3 and 2 pages, are merged to 4 full ones
        Face x = c.make(40, 2);
        Check.fill(x, 0, FIVE_AND_THREE);
        x.sort(0, 1, 3, 0);
        c.due("5 and 3", x.told(2), 3 + 2 + 4);
        c.due("5 and 3", x.drop(1), 4);
    }

    private static void runThatIsLeft(Check c) {
        Face x = c.make(40, 2);
        Check.fillRising(x, 0, 5);
        c.due("one run", x.sort(0, 1, 3, 0), 5);
        c.told("one run", x, 6, 3, 3, 1, 0, 6, 34);
        c.due("its pages", x.drop(1), 3);
        Check.fillFalling(x, 2, 4);
        c.due("two runs", x.sort(2, 1, 3, 0), 4);
        c.told("two runs", x, 8, 4, 4, 2, 1, 7, 33);
        c.file("two runs", x, 1, -4, 4, -3, 3, -2, 2, -1, 1);
    }

    private static void withoutRecordsNoPage(Check c) {
        Face x = c.make(6, 2);
        for (int call = 0; call < 3; call++) {
            Check.fill(x, 1, 4, 4, 5, 5, 6, 6);
            int count = call == 0 ? x.sort(0, 1, 3, 1) : call == 1 ? x.distinct(0, 1, 3) : x.join(0, 0, 1, 3);
            c.due("of nothing", count, 0);
            c.file("of nothing", x, 1);
            c.told("of nothing", x, 0, 0, 0, 0, 0, 2, 6);
            c.runs("of nothing", x);
            c.due("no page", x.drop(1), 0);
        }
        // where no page is FREE
        Face y = c.make(1, 2);
        Check.fill(y, 1, 4, 4);
        c.due("sort of nothing on a full disk", y.sort(0, 2, 3, 0), 0);
        c.due("distinct of nothing on a full disk", y.distinct(0, 2, 3), 0);
        c.due("join of nothing on a full disk", y.join(0, 2, 0, 3), 0);
        c.due("FREE", y.told(6), 0);
        c.due("sort to the file that has the page", y.sort(0, 1, 3, 0), 0);
        c.due("FREE", y.told(6), 1);
    }

    private static void transfers(Check c) {
        Face x = c.make(60, 2);
        Check.fill(x, 0, 5, 1, 3, 2, 4, 3, 1, 4);
        x.sort(0, 1, 3, 0);
        c.told("2 and 3 read, 3 and 2 written", x, 10, 5, 5);
        // each once: 3 pages read, 1 written
        Check.fill(x, 2, 1, 1, 1, 1, 1, 1, 2, 2, 2, 2);
        x.distinct(2, 3, 3);
        c.told("3 read, 1 written", x, 4, 3, 1);
        // both have a page; they are sorted, and read again; one page comes
        Check.fill(x, 4, 1, 7);
        Check.fill(x, 5, 1, 8, 1, 9);
        x.join(4, 5, 3, 3);
        c.told("4 read, 3 written", x, 7, 4, 3);
    }

    private static void theLastFreePage(Check c) {
        for (int pages = 4; pages <= 8; pages++) {
            String when = " on " + pages;
            Face x = c.make(pages, 1);
            Check.fillFalling(x, 0, 3);
            c.due("sort" + when, x.sort(0, 0, 3, 0), pages < 6 ? FULL : 3);
            Face y = c.make(pages, 1);
            Check.fillFalling(y, 0, 3);
            c.due("distinct" + when, y.distinct(0, 0, 3), pages < 6 ? FULL : 3);
            // a's two pages, b's one, and the sorted ones
            Face z = c.make(pages, 1);
            Check.fillFalling(z, 0, 2);
            Check.fillFalling(z, 1, 1);
            c.due("join" + when, z.join(0, 1, 0, 3), pages < 6 ? FULL : 1);
        }
        // the runs 5 6, 7 and 1: the page that is not full as the first run ends, and the last one
        for (int pages = 3; pages <= 6; pages++) {
            boolean full = pages < 5;
            Face x = c.make(pages, 2);
            Check.fill(x, 0, 5, 0, 6, 0, 7, 0, 1, 0);
            c.due("a run's end on " + pages, x.sort(0, 0, 3, 0), full ? FULL : 4);
            c.due("a run's end of distinct on " + pages, x.distinct(0, 0, 3), full ? FULL : 4);
            c.due("its file on " + pages, x.key(0, 0), full ? 5 : 1);
        }
        Face one = c.make(1, 1);
        Check.fill(one, 0, 1, 1);
        c.due("sort on the one page that is there", one.sort(0, 0, 3, 0), FULL);
        c.file("sort on the one page that is there", one, 0, 1, 1);
    }

    private static void filesAreAsBefore(Check c) {
        Face x = c.make(9, 1);
        Check.fill(x, 0, 2, 1, 1, 2);
        c.due("sort", x.sort(0, 1, 3, 0), 2);
        Check.fill(x, 2, 5, 5, 4, 4, 3, 3);
        // two pages are FREE, and file 2 has three
        c.due("sort to another", x.sort(2, 0, 3, 0), FULL);
        c.due("sort to itself", x.sort(2, 2, 3, 2), FULL);
        c.due("distinct to another", x.distinct(2, 1, 3), FULL);
        c.due("distinct to itself", x.distinct(2, 2, 16), FULL);
        c.due("a has no room", x.join(2, 0, 0, 3), FULL);
        c.due("b has no room", x.join(0, 2, 1, 16), FULL);
        c.due("b has no room", x.join(0, 2, 2, 16), FULL);
        c.file("as before", x, 0, 2, 1, 1, 2);
        c.file("as before", x, 1, 1, 2, 2, 1);
        c.file("as before", x, 2, 5, 5, 4, 4, 3, 3);
        c.told("as before", x, 8, 4, 4, 2, 1, 4, 2);
        c.runs("as before", x, 1, 1);
        c.due("what has room is done", x.sort(0, 0, 3, 0), 2);
        Face y = c.make(11, 1);
        Check.fillAlike(y, 0, 5, 3);
        Check.fill(y, 1, 8, 8);
        c.due("what comes has no room", y.join(0, 0, 1, 5), FULL);
        c.file("as before", y, 0, 5, 1, 5, 2, 5, 3);
        c.file("as before", y, 1, 8, 8);
        c.told("as before", y, 0, 0, 0, 0, 0, 0, 7);
    }

    private static void nothingIsLeftOfIt(Check c) {
        for (int records = 1; records <= 3; records++) {
            Face x = c.make(5, records);
            Check.fillRising(x, 0, 3 * records);
            Check.fill(x, 1, 2 * records, 2 * records);
            String when = records + " a page";
            c.due(when + ": one page for three", x.sort(0, 0, 3, 0), FULL);
            c.due(when + ": one page for one", x.sort(1, 1, 3, 0), 1);
            c.file(when + ": sort", x, 1, 2 * records, 2 * records);
            // the record that was held as the disk was FULL is the first of the next file
            c.due(when + ": one page for three", x.distinct(0, 0, 3), FULL);
            c.due(when + ": one page for one", x.distinct(1, 1, 3), 1);
            c.file(when + ": distinct", x, 1, 2 * records, 2 * records);
            c.told(when + ": distinct", x, 2, 1, 1, 1, 0, 5, 1);
        }
        // the page of a run's end has a record, as the disk is FULL
        Face y = c.make(4, 2);
        Check.fill(y, 0, 5, 1, 6, 2, 7, 3, 1, 4);
        Check.fill(y, 1, 9, 9);
        c.due("a run's end", y.sort(0, 0, 3, 0), FULL);
        c.due("one page for one", y.sort(1, 1, 3, 0), 1);
        c.file("one page for one", y, 1, 9, 9);
        // both are sorted; then nine pairs find no room, or are too large
        Face z = c.make(10, 1);
        Check.fillAlike(z, 0, 5, 3);
        Check.fill(z, 1, 6, 8);
        c.due("what comes has no room", z.join(0, 0, 2, 5), FULL);
        c.due("what comes is too large", z.join(0, 0, 2, 3), -3);
        c.due("one pair", z.join(1, 1, 2, 3), 1);
        c.file("one pair", z, 2, 8, 8);
        c.told("one pair", z, 7, 4, 3, 2, 0, 6, 5);
        c.runs("one pair", z, 1, 1);
    }

    private static void sortedToItself(Check c) {
        for (int pages = 5; pages <= 7; pages++) {
            Face x = c.make(pages, 1);
            Check.fillRising(x, 0, 3);
            String when = "three to themselves on " + pages;
            boolean full = pages < 6;
            c.due(when, x.sort(0, 0, 3, 2), full ? FULL : 3);
            c.due(when + ": FREE", x.told(6), pages - 3);
            c.due(when + ": peak", x.told(5), full ? 0 : 6);
            c.file(when, x, 0, full ? new int[] {1, 1, 2, 2, 3, 3} : new int[] {3, 3, 2, 2, 1, 1});
        }
    }

    private static void sortedToAnother(Check c) {
        for (int pages = 6; pages <= 8; pages++) {
            Face x = c.make(pages, 1);
            Check.fillRising(x, 0, 2);
            Check.fillRising(x, 1, 3);
            String when = "two to three on " + pages;
            boolean full = pages < 7;
            c.due(when, x.sort(0, 1, 3, 2), full ? FULL : 2);
            c.due(when + ": FREE", x.told(6), full ? pages - 5 : pages - 4);
            c.due(when + ": peak", x.told(5), full ? 0 : 7);
            c.file(when, x, 0, 1, 1, 2, 2);
            c.file(when, x, 1, full ? new int[] {1, 1, 2, 2, 3, 3} : new int[] {2, 2, 1, 1});
        }
    }

    private static void distinctToItself(Check c) {
        for (int pages = 4; pages <= 6; pages++) {
            Face x = c.make(pages, 1);
            Check.fill(x, 0, 1, 1, 1, 1, 2, 2);
            String when = "two of three on " + pages;
            boolean full = pages < 5;
            c.due(when, x.distinct(0, 0, 3), full ? FULL : 2);
            c.due(when + ": FREE", x.told(6), full ? pages - 3 : pages - 2);
            c.due(when + ": peak", x.told(5), full ? 0 : 5);
            c.file(when, x, 0, full ? new int[] {1, 1, 1, 1, 2, 2} : new int[] {1, 1, 2, 2});
        }
    }

    private static void joinedToOneOfTheTwo(Check c) {
        for (int pages = 7; pages <= 9; pages++) {
            for (int to = 0; to <= 1; to++) {
                Face x = c.make(pages, 1);
                Check.fill(x, 0, 2, 2, 3, 3);
                Check.fill(x, 1, 3, 4, 1, 5);
                String when = "join to " + to + " on " + pages;
                // b is a run of 1 record and a run of 1: eight pages are in use as it is sorted
                boolean full = pages < 8;
                c.due(when, x.join(0, 1, to, 3), full ? FULL : 1);
                c.due(when + ": FREE", x.told(6), full ? pages - 4 : pages - 3);
                c.due(when + ": peak", x.told(5), full ? 0 : 8);
                c.file(when, x, to, full ? to == 0 ? new int[] {2, 2, 3, 3} : new int[] {3, 4, 1, 5} : new int[] {3, 4});
                c.file(when, x, 1 - to, to == 1 ? new int[] {2, 2, 3, 3} : new int[] {3, 4, 1, 5});
            }
        }
        for (int pages = 11; pages <= 13; pages++) {
            Face x = c.make(pages, 1);
            Check.fillAlike(x, 0, 5, 3);
            String when = "nine pairs to their own file on " + pages;
            boolean full = pages < 12;
            c.due(when, x.join(0, 0, 0, 5), full ? FULL : 9);
            c.due(when + ": size", x.size(0), full ? 3 : 9);
            c.due(when + ": FREE", x.told(6), full ? pages - 3 : pages - 9);
            c.due(when + ": peak", x.told(5), full ? 0 : 12);
        }
    }

    private static void joinedToAnother(Check c) {
        for (int pages = 12; pages <= 14; pages++) {
            Face x = c.make(pages, 1);
            Check.fillAlike(x, 0, 5, 3);
            Check.fill(x, 1, 8, 8);
            String when = "nine pairs to another file on " + pages;
            boolean full = pages < 13;
            c.due(when, x.join(0, 0, 1, 5), full ? FULL : 9);
            c.due(when + ": size", x.size(1), full ? 1 : 9);
            c.due(when + ": key", x.key(1, 0), full ? 8 : 1);
            c.due(when + ": FREE", x.told(6), full ? pages - 4 : pages - 12);
            c.due(when + ": peak", x.told(5), full ? 0 : 13);
        }
    }
}
