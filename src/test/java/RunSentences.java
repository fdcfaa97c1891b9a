import java.util.ArrayList;
import java.util.Collections;
import java.util.List;

/** The terms of SORTING: BUDGET and H, ORDERS, RUNS. */
final class RunSentences {
    private static final int NONE = -1;
    /** With three in memory: 3 4 5 8 9 is written while 1, 2 and 7 wait. */
    private static final int[] EIGHT = {5, 1, 3, 2, 8, 3, 4, 4, 1, 5, 9, 6, 2, 7, 7, 8};

    static List<Sentence> all() {
        List<Sentence> all = new ArrayList<>();
        all.addAll(budgets());
        all.addAll(orders());
        all.addAll(memory());
        all.addAll(pagesOfRuns());
        return all;
    }

    private static List<Sentence> budgets() {
        return List.of(
            Sentence.of("Terms", "==== SORTING a file with a BUDGET of b pages (3 .. 16),",
                RunSentences::budgetsThatAre,
                Sentence.fault("4 at the least", (p, r) -> new Model(p, r) {
                    @Override
                    boolean isBudget(int budget) {
                        return budget >= 4 && budget <= 16;
                    }
                }),
                Sentence.fault("15 at the most", (p, r) -> new Model(p, r) {
                    @Override
                    boolean isBudget(int budget) {
                        return budget >= 3 && budget <= 15;
                    }
                }),
                Sentence.fault("no more than the disk has", (p, r) -> new Model(p, r) {
                    @Override
                    boolean isBudget(int budget) {
                        return super.isBudget(budget) && budget <= pages;
                    }
                })),
            Sentence.of("Terms", "==== SORTING a file with a BUDGET of b pages (3 .. 16),",
                RunSentences::budgetsThatAreNot,
                Sentence.fault("2 will do", (p, r) -> new Model(p, r) {
                    @Override
                    boolean isBudget(int budget) {
                        return budget >= 2 && budget <= 16;
                    }
                }),
                Sentence.fault("17 will do", (p, r) -> new Model(p, r) {
                    @Override
                    boolean isBudget(int budget) {
                        return budget >= 3 && budget <= 17;
                    }
                }),
                Sentence.fault("taken into 3 .. 16", (p, r) -> new Model(p, r) {
                    @Override
                    public int sort(int from, int to, int budget, int mode) {
                        return super.sort(from, to, Math.max(3, Math.min(16, budget)), mode);
                    }
                })),
            Sentence.of("Terms", "H is (b - 2) * RECORDS.", RunSentences::recordsInMemory,
                Sentence.fault("(b - 1) * RECORDS", (p, r) -> withRoom(p, r, 1, 0)),
                Sentence.fault("(b - 3) * RECORDS", (p, r) -> withRoom(p, r, -1, 0)),
                Sentence.fault("one more", (p, r) -> withRoom(p, r, 0, 1)),
                Sentence.fault("b - 2", (p, r) -> new Model(p, r) {
                    @Override
                    int roomOf(int budget) {
                        return budget - 2;
                    }
                }),
                Sentence.fault("one less than the most", (p, r) -> new Model(p, r) {
                    @Override
                    int roomOf(int budget) {
                        return Math.min(14 * 16 - 1, super.roomOf(budget));
                    }
                })));
    }

    private static Model withRoom(int pageCount, int recordCount, int morePages, int more) {
        return new Model(pageCount, recordCount) {
            @Override
            int roomOf(int budget) {
                return Math.max(1, (budget - 2 + morePages) * records + more);
            }
        };
    }

    private static List<Sentence> orders() {
        return List.of(
            Sentence.of("Terms", "ORDERS: mode 0: by rising keys;", c -> sortsTo(c, 0,
                    new int[] {5, 1, 3, 2, 9, 3, 1, 4, -7, 5, 7, 6},
                    new int[] {-7, 5, 1, 4, 3, 2, 5, 1, 7, 6, 9, 3}),
                Sentence.fault("falling", (p, r) -> inMode(p, r, 0, 2)),
                Sentence.fault("by tags", (p, r) -> new Model(p, r) {
                    @Override
                    int compare(int mode, int[] one, int[] other) {
                        return Integer.compare(one[1], other[1]);
                    }
                })),
            Sentence.of("Terms", "1: by rising keys, of like ones by rising tags;", c -> sortsTo(c, 1,
                    new int[] {5, 1, 3, 7, 9, 3, 3, -2, 5, 0, 3, 7, 3, 2},
                    new int[] {3, -2, 3, 2, 3, 7, 3, 7, 5, 0, 5, 1, 9, 3}),
                Sentence.fault("tags as they came", (p, r) -> inMode(p, r, 1, 0)),
                Sentence.fault("falling tags", (p, r) -> new Model(p, r) {
                    @Override
                    int compare(int mode, int[] one, int[] other) {
                        boolean like = mode == 1 && one[0] == other[0];
                        return like ? Integer.compare(other[1], one[1]) : super.compare(mode, one, other);
                    }
                })),
            Sentence.of("Terms", "2: by falling keys.", c -> sortsTo(c, 2,
                    new int[] {5, 1, 3, 2, 9, 3, 1, 4, -7, 5, 7, 6},
                    new int[] {9, 3, 7, 6, 5, 1, 3, 2, 1, 4, -7, 5}),
                Sentence.fault("rising", (p, r) -> inMode(p, r, 2, 0))),
            Sentence.of("Terms", "What is alike in it: by when it came.", RunSentences::alikeByWhenItCame,
                Sentence.fault("the latest in memory first", (p, r) -> new Model(p, r) {
                    @Override
                    Held firstHeld(List<Held> memory, int run, int mode) {
                        List<Held> turned = new ArrayList<>(memory);
                        Collections.reverse(turned);
                        return super.firstHeld(turned, run, mode);
                    }
                }),
                Sentence.fault("mode 0 by tags, too", (p, r) -> inMode(p, r, 0, 1)),
                Sentence.fault("mode 2 is mode 0 from behind", (p, r) -> new Model(p, r) {
                    @Override
                    List<int[]> arrange(List<int[]> file, int budget, int mode, boolean once) throws Refused {
                        List<int[]> sorted = new ArrayList<>(super.arrange(file, budget, mode == 2 ? 0 : mode, once));
                        if (mode == 2) {
                            Collections.reverse(sorted);
                        }
                        return sorted;
                    }
                }),
                Sentence.fault("mode 2 by tags, too", (p, r) -> new Model(p, r) {
                    @Override
                    int compare(int mode, int[] one, int[] other) {
                        boolean like = mode == 2 && one[0] == other[0];
                        return like ? Integer.compare(one[1], other[1]) : super.compare(mode, one, other);
                    }
                })));
    }

    private static Model inMode(int pageCount, int recordCount, int asked, int taken) {
        return new Model(pageCount, recordCount) {
            @Override
            int compare(int mode, int[] one, int[] other) {
                return super.compare(mode == asked ? taken : mode, one, other);
            }
        };
    }

    private static List<Sentence> memory() {
        return List.of(
            Sentence.of("Terms",
                "RUNS: up to H records are in memory, each for the run at hand or for the next one.",
                RunSentences::someForTheNextRun,
                Sentence.fault("all are for the next run", (p, r) -> new Model(p, r) {
                    @Override
                    boolean isForNextRun(int mode, int[] next, int[] written) {
                        return true;
                    }
                }),
                Sentence.fault("all are for the run at hand", (p, r) -> new Model(p, r) {
                    @Override
                    boolean isForNextRun(int mode, int[] next, int[] written) {
                        return false;
                    }
                }),
                Sentence.fault("one less is in memory", (p, r) -> withRoom(p, r, 0, -1)),
                Sentence.fault("one more is in memory", (p, r) -> withRoom(p, r, 0, 1))),
            Sentence.of("Terms", "As many as there is room for are taken from the file, in its order, first"
                    + " (all for the run at hand);",
                RunSentences::takenFirst,
                Sentence.fault("one less is taken", (p, r) -> withRoom(p, r, 0, -1)),
                Sentence.fault("what falls is for the next run", (p, r) -> new Model(p, r) {
                    @Override
                    int runOfFirst(List<Held> memory, int[] record, int mode) {
                        boolean falls = !memory.isEmpty()
                            && compare(mode, record, memory.get(memory.size() - 1).record) < 0;
                        return falls ? 1 : 0;
                    }
                }),
                Sentence.fault("from the file's end", (p, r) -> new Model(p, r) {
                    @Override
                    int[] take(List<int[]> file, int i) {
                        return super.take(file, file.size() - 1 - i);
                    }
                })),
            Sentence.of("Terms", "then, as long as there is one: if none is for the run at hand, that run ends and"
                    + " the next one is at hand.",
                RunSentences::runsEnd,
                Sentence.fault("a run without records at the end", (p, r) -> new Model(p, r) {
                    @Override
                    List<List<int[]>> makeRuns(List<int[]> file, int room, int mode, boolean once) throws Refused {
                        List<List<int[]>> runs = super.makeRuns(file, room, mode, once);
                        lengths.add(0);
                        return runs;
                    }
                }),
                Sentence.fault("no run ends", (p, r) -> new Model(p, r) {
                    @Override
                    Held firstHeld(List<Held> memory, int run, int mode) {
                        Held first = super.firstHeld(memory, run, mode);
                        return first == null && !memory.isEmpty() ? memory.get(0) : first;
                    }
                })),
            Sentence.of("Terms", "The first in the ORDER of those for the run at hand is written to it;",
                RunSentences::firstIsWritten,
                Sentence.fault("the first of all in memory", (p, r) -> new Model(p, r) {
                    @Override
                    Held firstHeld(List<Held> memory, int run, int mode) {
                        Held first = super.firstHeld(memory, run, mode);
                        Held waiting = super.firstHeld(memory, run + 1, mode);
                        boolean sooner = first != null && waiting != null
                            && compare(mode, waiting.record, first.record) < 0;
                        return sooner ? waiting : first;
                    }
                }),
                Sentence.fault("the one that came first", (p, r) -> new Model(p, r) {
                    @Override
                    Held firstHeld(List<Held> memory, int run, int mode) {
                        return memory.stream().filter(held -> held.run == run).findFirst().orElse(null);
                    }
                })),
            Sentence.of("Terms", "then one is taken from the file, if there is one more:",
                RunSentences::oneIsTaken,
                Sentence.fault("the last one is not", (p, r) -> new Model(p, r) {
                    @Override
                    boolean hasMore(List<int[]> file, int taken) {
                        return taken < file.size() - 1;
                    }
                }),
                Sentence.fault("memory is filled when it is empty", (p, r) -> new Model(p, r) {
                    @Override
                    boolean isForNextRun(int mode, int[] next, int[] written) {
                        return true;
                    }
                })),
            Sentence.of("Terms", "if it stands ahead of the one just written (in the ORDER; alike: not) it is for the"
                    + " next run, else for this one.",
                RunSentences::aheadIsForTheNextRun,
                Sentence.fault("alike: for the next run", (p, r) -> new Model(p, r) {
                    @Override
                    boolean isForNextRun(int mode, int[] next, int[] written) {
                        return compare(mode, next, written) <= 0;
                    }
                }),
                Sentence.fault("held by keys alone", (p, r) -> new Model(p, r) {
                    @Override
                    boolean isForNextRun(int mode, int[] next, int[] written) {
                        return compare(mode == 1 ? 0 : mode, next, written) < 0;
                    }
                }),
                Sentence.fault("held by tags in every mode", (p, r) -> new Model(p, r) {
                    @Override
                    boolean isForNextRun(int mode, int[] next, int[] written) {
                        return compare(mode == 0 ? 1 : mode, next, written) < 0;
                    }
                }),
                Sentence.fault("held by rising keys in mode 2", (p, r) -> new Model(p, r) {
                    @Override
                    boolean isForNextRun(int mode, int[] next, int[] written) {
                        return compare(mode == 2 ? 0 : mode, next, written) < 0;
                    }
                })));
    }

    private static List<Sentence> pagesOfRuns() {
        return List.of(
            Sentence.of("Terms", "A page of the file is read as its first record is taken.",
                RunSentences::pagesRead,
                Sentence.fault("as its last one is taken", (p, r) -> new Model(p, r) {
                    @Override
                    int[] take(List<int[]> file, int i) {
                        reads += (i + 1) % records == 0 ? 1 : 0;
                        return file.get(i);
                    }
                }),
                Sentence.fault("for each record", (p, r) -> new Model(p, r) {
                    @Override
                    int[] take(List<int[]> file, int i) {
                        reads++;
                        return file.get(i);
                    }
                }),
                Sentence.fault("one more, behind a full page", (p, r) -> new Model(p, r) {
                    @Override
                    boolean hasMore(List<int[]> file, int taken) {
                        reads += taken > 0 && taken == file.size() && taken % records == 0 ? 1 : 0;
                        return super.hasMore(file, taken);
                    }
                })),
            Sentence.of("Terms", "A run's page is written when it is full, or the run ends.",
                RunSentences::pagesWritten,
                Sentence.fault("a page more behind a full one", (p, r) -> new Model(p, r) {
                    @Override
                    void end(List<int[]> run) throws Refused {
                        writePage();
                    }
                }),
                Sentence.fault("what is left at the end is not", (p, r) -> new Model(p, r) {
                    @Override
                    void end(List<int[]> run) {
                        // nothing
                    }
                })),
            Sentence.of("Terms", "(The file's pages stay.)", RunSentences::filePagesStay,
                Sentence.fault("they are FREE as they are read", (p, r) -> new Model(p, r) {
                    @Override
                    int[] take(List<int[]> file, int i) {
                        workPages -= i % records == 0 ? 1 : 0;
                        return super.take(file, i);
                    }
                }),
                Sentence.fault("the file is empty then", (p, r) -> new Model(p, r) {
                    @Override
                    int sorted(int from, int to, int budget, int mode, boolean once) {
                        int count = super.sorted(from, to, budget, mode, once);
                        if (from != to) {
                            list(from).clear();
                        }
                        return count;
                    }
                })));
    }

    private static void budgetsThatAre(Check c) {
        for (int budget = 3; budget <= 16; budget++) {
            Face x = c.make(40, 2);
            Check.fill(x, 0, 3, 1, 2, 2, 1, 3);
            c.due("sort with " + budget, x.sort(0, 1, budget, 0), 3);
            c.due("distinct with " + budget, x.distinct(0, 2, budget), 3);
            c.due("join with " + budget, x.join(0, 0, 3, budget), 3);
        }
        // the pages of the BUDGET are in memory: the disk may have fewer
        Face x = c.make(2, 1);
        Check.fill(x, 0, 3, 1);
        c.due("sort on two pages", x.sort(0, 0, 16, 0), 1);
        c.due("distinct on two pages", x.distinct(0, 0, 16), 1);
        Face y = c.make(3, 1);
        Check.fill(y, 0, 3, 1);
        c.due("join on three pages", y.join(0, 0, 0, 16), 1);
    }

    private static void budgetsThatAreNot(Check c) {
        Face x = c.make(40, 2);
        Check.fill(x, 0, 3, 1, 2, 2, 1, 3);
        Check.fill(x, 1, 9, 9);
        for (int budget : new int[] {2, 17, 1, 0, -1, -3, 18, Integer.MIN_VALUE, Integer.MAX_VALUE}) {
            c.due("sort with " + budget, x.sort(0, 1, budget, 0), NONE);
            c.due("distinct with " + budget, x.distinct(0, 1, budget), NONE);
            c.due("join with " + budget, x.join(0, 0, 1, budget), NONE);
        }
        c.file("as before", x, 0, 3, 1, 2, 2, 1, 3);
        c.file("as before", x, 1, 9, 9);
        c.told("nothing is done", x, 0, 0, 0, 0, 0, 0, 37);
        c.runs("nothing is done", x);
    }

    private static void recordsInMemory(Check c) {
        for (int records : new int[] {1, 2, 5, 16}) {
            for (int budget = 3; budget <= 16; budget++) {
                int room = (budget - 2) * records;
                Face x = c.make(512, records);
                String when = records + " a page, budget " + budget;
                Check.fillFalling(x, 0, room);
                c.due(when, x.sort(0, 1, budget, 0), room);
                c.runs(when, x, room);
                x.append(0, -room - 1, 0);
                c.due(when, x.sort(0, 1, budget, 0), room + 1);
                c.runs(when, x, room, 1);
            }
        }
    }

    private static void sortsTo(Check c, int mode, int[] from, int[] to) {
        for (int records = 1; records <= 3; records++) {
            for (int budget = 3; budget <= 9; budget++) {
                Face x = c.make(60, records);
                Check.fill(x, 0, from);
                String when = records + " a page, budget " + budget;
                c.due(when, x.sort(0, 1, budget, mode), from.length / 2);
                c.file(when, x, 1, to);
            }
        }
    }

    private static void alikeByWhenItCame(Check c) {
        int[] from = {2, 9, 1, 8, 2, 7, 1, 6, 2, 9, 1, 5, 2, 1};
        sortsTo(c, 0, from, new int[] {1, 8, 1, 6, 1, 5, 2, 9, 2, 7, 2, 9, 2, 1});
        sortsTo(c, 2, from, new int[] {2, 9, 2, 7, 2, 9, 2, 1, 1, 8, 1, 6, 1, 5});
    }

    private static void someForTheNextRun(Check c) {
        Face x = c.make(60, 1);
        Check.fill(x, 0, EIGHT);
        c.due("three in memory", x.sort(0, 1, 5, 0), 8);
        c.runs("three in memory", x, 5, 3);
        c.file("three in memory", x, 1, 1, 5, 2, 7, 3, 2, 4, 4, 5, 1, 7, 8, 8, 3, 9, 6);
        // 3 5 8 9 is written while 1, 4 and 2 wait: with four in memory the 1 would be the first
        Check.fill(x, 2, 5, 1, 3, 2, 8, 3, 1, 4, 4, 5, 9, 6, 2, 7, 7, 8);
        c.due("no more than three", x.sort(2, 1, 5, 0), 8);
        c.runs("no more than three", x, 4, 4);
    }

    private static void takenFirst(Check c) {
        // H is 4
        for (int count = 1; count <= 4; count++) {
            Face x = c.make(20, 2);
            Check.fillFalling(x, 0, count);
            c.due(count + " falling", x.sort(0, 1, 4, 0), count);
            c.runs(count + " falling", x, count);
        }
        Face x = c.make(20, 2);
        Check.fillFalling(x, 0, 5);
        x.sort(0, 1, 4, 0);
        c.runs("five falling", x, 4, 1);
        Check.fill(x, 2, 7, 3, 7, 1, 7, 2);
        x.sort(2, 3, 4, 0);
        c.file("in its order", x, 3, 7, 3, 7, 1, 7, 2);
    }

    private static void runsEnd(Check c) {
        // H is 2
        Face x = c.make(60, 1);
        Check.fill(x, 0, 4, 0, 5, 0, 1, 0, 2, 0, 3, 0);
        c.due("1 and 2 wait", x.sort(0, 1, 4, 0), 5);
        c.runs("1 and 2 wait", x, 2, 3);
        c.file("1 and 2 wait", x, 1, 1, 0, 2, 0, 3, 0, 4, 0, 5, 0);
        Check.fill(x, 2, 4, 0, 5, 0, 1, 0);
        x.sort(2, 1, 4, 0);
        c.runs("the last is a run of its own", x, 2, 1);
        Check.fill(x, 3, 4, 0, 5, 0);
        x.sort(3, 1, 4, 0);
        c.runs("none is left as the run ends", x, 2);
        x.sort(5, 1, 4, 0);
        c.runs("there is none at all", x);
    }

    private static void firstIsWritten(Check c) {
        Face x = c.make(60, 1);
        Check.fill(x, 0, EIGHT);
        int[] rising = {1, 5, 2, 7, 3, 2, 4, 4, 5, 1, 7, 8, 8, 3, 9, 6};
        for (int mode = 0; mode <= 1; mode++) {
            x.sort(0, 1, 5, mode);
            c.runs("mode " + mode, x, 5, 3);
            c.file("mode " + mode, x, 1, rising);
        }
        // falling: 8 5 4 3 2 1 is written while 9 and 7 wait
        x.sort(0, 1, 5, 2);
        c.runs("mode 2", x, 6, 2);
        c.file("mode 2", x, 1, 9, 6, 8, 3, 7, 8, 5, 1, 4, 4, 3, 2, 2, 7, 1, 5);
    }

    private static void oneIsTaken(Check c) {
        // H is 2: each record but the first two takes the place of one that was written
        for (int count = 1; count <= 6; count++) {
            Face x = c.make(40, 1);
            Check.fillRising(x, 0, count);
            c.due(count + " rising", x.sort(0, 1, 4, 0), count);
            c.runs(count + " rising", x, count);
            c.due("the last of " + count, x.key(1, count - 1), count);
        }
    }

    private static void aheadIsForTheNextRun(Check c) {
        int[] fallingTags = {5, 3, 5, 2, 5, 1};
        hasRuns(c, "mode 0, like keys", 0, fallingTags, 3);
        hasRuns(c, "mode 2, like keys", 2, fallingTags, 3);
        hasRuns(c, "mode 1, like keys and falling tags", 1, fallingTags, 1, 1, 1);
        hasRuns(c, "mode 1, all alike", 1, new int[] {5, 3, 5, 3, 5, 3}, 3);
        hasRuns(c, "mode 1, like keys and rising tags", 1, new int[] {5, 1, 5, 2, 5, 3}, 3);
        int[] falling = {3, 0, 2, 0, 1, 0};
        hasRuns(c, "mode 0, falling", 0, falling, 1, 1, 1);
        hasRuns(c, "mode 1, falling", 1, falling, 1, 1, 1);
        hasRuns(c, "mode 2, falling", 2, falling, 3);
        int[] rising = {1, 0, 2, 0, 3, 0};
        hasRuns(c, "mode 0, rising", 0, rising, 3);
        hasRuns(c, "mode 1, rising", 1, rising, 3);
        hasRuns(c, "mode 2, rising", 2, rising, 1, 1, 1);
    }

    /** H is 1: a record comes to the run of the one ahead of it, or begins a run. */
    private static void hasRuns(Check c, String when, int mode, int[] from, int... lengths) {
        Face x = c.make(40, 1);
        Check.fill(x, 0, from);
        c.due(when, x.sort(0, 1, 3, mode), from.length / 2);
        c.runs(when, x, lengths);
    }

    private static void pagesRead(Check c) {
        int[] pages = {0, 1, 1, 1, 2, 2, 2, 3};
        for (int count = 0; count < pages.length; count++) {
            for (int budget = 3; budget <= 6; budget++) {
                Face x = c.make(20, 3);
                Check.fillRising(x, 0, count);
                x.sort(0, 1, budget, 0);
                c.due("pages read of " + count + " records", x.told(1), pages[count]);
            }
        }
    }

    private static void pagesWritten(Check c) {
        int[] pages = {0, 1, 1, 1, 2, 2, 2, 3};
        for (int count = 0; count < pages.length; count++) {
            Face x = c.make(20, 3);
            Check.fillRising(x, 0, count);
            x.sort(0, 1, 3, 0);
            c.due("pages written of " + count + " records", x.told(2), pages[count]);
            c.due("FREE behind " + count + " records", x.told(6), 20 - 2 * pages[count]);
        }
        // runs of 4 and 1 records: two pages and one, though both would have room in two
        Face x = c.make(20, 3);
        Check.fill(x, 0, 4, 0, 5, 0, 6, 0, 7, 0, 1, 0);
        x.sort(0, 1, 3, 0);
        c.runs("4 and 1", x, 4, 1);
        c.told("4 and 1", x, 10, 5, 5, 2, 1, 5, 16);
        // runs of 3 and 3 records: a full page each
        Face y = c.make(20, 3);
        Check.fillFalling(y, 0, 6);
        y.sort(0, 1, 3, 0);
        c.runs("3 and 3", y, 3, 3);
        c.told("3 and 3", y, 8, 4, 4, 2, 1, 4, 16);
    }

    private static void filePagesStay(Check c) {
        Face x = c.make(6, 1);
        Check.fillRising(x, 0, 3);
        c.due("to another", x.sort(0, 1, 3, 0), 3);
        c.file("the file stays", x, 0, 1, 1, 2, 2, 3, 3);
        c.told("three and three", x, 6, 3, 3, 1, 0, 6, 0);
        Face y = c.make(5, 1);
        Check.fillRising(y, 0, 3);
        c.due("two pages for three", y.sort(0, 1, 3, 0), -2);
        c.due("two pages for three", y.sort(0, 0, 3, 0), -2);
        c.file("the file stays", y, 0, 1, 1, 2, 2, 3, 3);
    }
}
