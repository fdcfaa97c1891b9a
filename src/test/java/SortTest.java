/** Promises 4, 5, 10 and 11: sort, distinct, and what told() and run() say of them. */
final class SortTest {
    private static final int NONE = ExternalSort.NONE;
    private static final int FULL = -2;
    private static final Check check = new Check("SortTest");

    public static void main(String[] args) {
        oneRun();
        likeKeysInEachMode();
        runsAndOnePass();
        runLeftAloneStays();
        budgetIsTheWidthOfMerging();
        toItselfAndToAnother();
        withoutRecords();
        fullLeavesAll();
        justEnoughPages();
        wrongArguments();
        toldIsOfTheLatestDone();
        distinctInOneRun();
        distinctInMerging();
        distinctMindsTags();
        distinctFailsAsSort();
        check.end();
    }

    private static void oneRun() {
        Face x = check.make(30, 2);
        Check.fill(x, 0, 1, 1, 2, 2, 3, 3, 5, 5, 4, 4);
        check.due("sort", x.sort(0, 1, 3, 0), 5);
        check.file("rising but for one", x, 1, 1, 1, 2, 2, 3, 3, 4, 4, 5, 5);
        check.file("as it was", x, 0, 1, 1, 2, 2, 3, 3, 5, 5, 4, 4);
        check.told("one run", x, 6, 3, 3, 1, 0, 6, 24, 30, 2);
        check.runs("one run", x, 5);
        check.due("told(9)", x.told(9), NONE);
        check.due("told(-1)", x.told(-1), NONE);
        check.due("told(low)", x.told(Integer.MIN_VALUE), NONE);
        check.due("told(high)", x.told(Integer.MAX_VALUE), NONE);
        check.due("run(low)", x.run(Integer.MIN_VALUE), NONE);
        check.due("run(high)", x.run(Integer.MAX_VALUE), NONE);
    }

    private static void likeKeysInEachMode() {
        for (int budget = 3; budget <= 16; budget++) {
            Face x = check.make(60, 1);
            Check.fill(x, 0, 2, 9, 1, 8, 2, 7, 1, 6, 2, 9, 1, 5);
            check.due("mode 0", x.sort(0, 1, budget, 0), 6);
            check.file("mode 0", x, 1, 1, 8, 1, 6, 1, 5, 2, 9, 2, 7, 2, 9);
            check.due("mode 1", x.sort(0, 2, budget, 1), 6);
            check.file("mode 1", x, 2, 1, 5, 1, 6, 1, 8, 2, 7, 2, 9, 2, 9);
            check.due("mode 2", x.sort(0, 3, budget, 2), 6);
            check.file("mode 2", x, 3, 2, 9, 2, 7, 2, 9, 1, 8, 1, 6, 1, 5);
        }
    }

    /** H is 2: 5 3 | 4 in, 3 and 4 and 5 out; 1 stands ahead of 3, so it waits. */
    private static void runsAndOnePass() {
        Face x = check.make(40, 2);
        Check.fill(x, 0, 5, 1, 3, 2, 4, 3, 1, 4);
        check.due("sort", x.sort(0, 1, 3, 0), 4);
        check.told("two runs", x, 10, 5, 5, 2, 1, 5, 36, 40, 2);
        check.runs("two runs", x, 3, 1);
        check.file("two runs", x, 1, 1, 4, 3, 2, 4, 3, 5, 1);
    }

    /** H is 1 and two runs are merged at a time: falling keys are a run each. */
    private static void runLeftAloneStays() {
        Face x = check.make(40, 1);
        Check.fill(x, 0, 5, 1, 4, 2, 3, 3, 2, 4, 1, 5);
        check.due("sort", x.sort(0, 1, 3, 0), 5);
        // passes over 1 1 1 1 (1), then 2 2 (1), then 4 1: 4 + 4 + 5 pages are merged
        check.told("five runs", x, 36, 18, 18, 5, 3, 10, 30);
        check.runs("five runs", x, 1, 1, 1, 1, 1);
        check.file("five runs", x, 1, 1, 5, 2, 4, 3, 3, 4, 2, 5, 1);
    }

    private static void budgetIsTheWidthOfMerging() {
        Face x = check.make(512, 1);
        for (int i = 0; i < 30; i++) {
            x.append(0, -i, i);
        }
        // H is 2: fifteen runs of two; three at a time: five, then two, then one
        check.due("budget 4", x.sort(0, 1, 4, 0), 30);
        check.told("budget 4", x, 30 * 8, 120, 120, 15, 3, 60, 512 - 60);
        // H is 14: three runs, of 14, 14 and 2, merged at once
        check.due("budget 16", x.sort(0, 1, 16, 0), 30);
        check.told("budget 16", x, 120, 60, 60, 3, 1, 90, 512 - 60);
        check.runs("budget 16", x, 14, 14, 2);
        check.due("rising already", x.sort(1, 1, 16, 0), 30);
        check.told("rising already", x, 60, 30, 30, 1, 0, 90, 512 - 60);
        check.runs("rising already", x, 30);
    }

    private static void toItselfAndToAnother() {
        Face x = check.make(20, 2);
        Check.fill(x, 0, 3, 1, 2, 2, 1, 3);
        Check.fill(x, 1, 9, 9, 8, 8, 7, 7, 6, 6, 5, 5);
        // two runs, of 2 and 1 records, are a page each; the old pages of the file are not FREE ahead
        check.due("to another", x.sort(0, 1, 3, 0), 3);
        check.told("to another", x, 8, 4, 4, 2, 1, 7, 16);
        check.file("to another", x, 1, 1, 3, 2, 2, 3, 1);
        check.file("to another", x, 0, 3, 1, 2, 2, 1, 3);
        check.due("to itself", x.sort(0, 0, 3, 2), 3);
        check.told("to itself", x, 4, 2, 2, 1, 0, 6, 16);
        check.file("to itself", x, 0, 3, 1, 2, 2, 1, 3);
    }

    private static void withoutRecords() {
        Face x = check.make(6, 2);
        Check.fill(x, 1, 4, 4, 5, 5, 6, 6);
        check.due("sort of nothing", x.sort(0, 1, 3, 1), 0);
        check.file("sort of nothing", x, 1);
        check.told("sort of nothing", x, 0, 0, 0, 0, 0, 2, 6);
        check.runs("sort of nothing", x);
        Check.fill(x, 1, 4, 4);
        check.due("distinct of nothing", x.distinct(0, 1, 3), 0);
        check.file("distinct of nothing", x, 1);
        check.told("distinct of nothing", x, 0, 0, 0, 0, 0, 1, 6);
    }

    private static void fullLeavesAll() {
        Face x = check.make(9, 1);
        Check.fill(x, 0, 2, 1, 1, 2);
        check.due("sort", x.sort(0, 1, 3, 0), 2);
        Check.fill(x, 2, 5, 5, 4, 4, 3, 3);
        int[] before = {x.told(0), x.told(1), x.told(2), x.told(3), x.told(4), x.told(5), x.told(6)};
        check.due("no page for the third record", x.sort(2, 2, 3, 0), FULL);
        check.due("no page for the third record", x.sort(2, 0, 3, 0), FULL);
        check.due("no page for the third record", x.distinct(2, 1, 16), FULL);
        check.told("told as before", x, before);
        check.due("run(0) as before", x.run(0), 1);
        check.file("as before", x, 0, 2, 1, 1, 2);
        check.file("as before", x, 1, 1, 2, 2, 1);
        check.file("as before", x, 2, 5, 5, 4, 4, 3, 3);
        check.due("FREE as before", x.told(6), 2);
        check.due("what fits is done yet", x.sort(0, 0, 3, 0), 2);
        check.file("what fits is done yet", x, 0, 1, 2, 2, 1);
        check.due("peak", x.told(5), 9);
    }

    private static void justEnoughPages() {
        for (int pages = 6; pages <= 8; pages++) {
            Face x = check.make(pages, 2);
            // runs of 2, 2, 2 records beside the file's three pages; runs of 3 and 3 take four pages
            Check.fill(x, 0, 6, 1, 5, 2, 4, 3, 3, 4, 2, 5, 1, 6);
            check.due("three runs, " + pages, x.sort(0, 0, 3, 0), 6);
            check.due("three runs, " + pages, x.told(5), 6);
            x.drop(0);
            Check.fill(x, 0, 5, 1, 6, 2, 7, 3, 1, 4, 2, 5, 3, 6);
            check.due("two runs, " + pages, x.sort(0, 0, 3, 0), pages < 7 ? FULL : 6);
            check.due("FREE, " + pages, x.told(6), pages - 3);
        }
    }

    private static void wrongArguments() {
        Face x = check.make(20, 2);
        Check.fill(x, 0, 3, 1, 2, 2, 1, 3);
        int[] wrongFiles = {-1, 6, Integer.MIN_VALUE, Integer.MAX_VALUE};
        for (int file : wrongFiles) {
            check.due("sort from " + file, x.sort(file, 0, 3, 0), NONE);
            check.due("sort to " + file, x.sort(0, file, 3, 0), NONE);
            check.due("distinct from " + file, x.distinct(file, 0, 3), NONE);
            check.due("distinct to " + file, x.distinct(0, file, 3), NONE);
        }
        for (int budget : new int[] {2, 17, 0, -3, Integer.MIN_VALUE, Integer.MAX_VALUE}) {
            check.due("sort with " + budget, x.sort(0, 0, budget, 0), NONE);
            check.due("distinct with " + budget, x.distinct(0, 0, budget), NONE);
        }
        for (int mode : new int[] {-1, 3, Integer.MIN_VALUE, Integer.MAX_VALUE}) {
            check.due("sort in " + mode, x.sort(0, 0, 3, mode), NONE);
        }
        check.file("nothing changed", x, 0, 3, 1, 2, 2, 1, 3);
        check.told("nothing done", x, 0, 0, 0, 0, 0, 0, 18);
        check.runs("nothing done", x);
    }

    private static void toldIsOfTheLatestDone() {
        Face x = check.make(20, 1);
        Check.fill(x, 0, 2, 1, 1, 2);
        x.sort(0, 1, 3, 0);
        check.told("done", x, 8, 4, 4, 2, 1, 4, 16);
        x.sort(0, 1, 2, 0);
        x.join(0, 1, 9, 3);
        check.told("NONE is not done", x, 8, 4, 4, 2, 1, 4, 16);
        check.runs("NONE is not done", x, 1, 1);
        x.drop(0);
        x.drop(1);
        check.told("FREE is of now", x, 8, 4, 4, 2, 1, 4, 20);
        x.sort(0, 1, 3, 0);
        check.told("done again", x, 0, 0, 0, 0, 0, 0, 20);
        check.runs("done again", x);
    }

    private static void distinctInOneRun() {
        Face x = check.make(40, 2);
        Check.fill(x, 0, 1, 1, 1, 1, 1, 1, 2, 2, 1, 1, 2, 2);
        check.due("distinct", x.distinct(0, 1, 3), 2);
        check.file("distinct", x, 1, 1, 1, 2, 2);
        check.told("one page is left", x, 4, 3, 1, 1, 0, 4, 36);
        check.runs("one page is left", x, 2);
    }

    /** The runs 3 4 and 1 3 4 (one 1 is gone there): 3 and 4 come twice to the merging. */
    private static void distinctInMerging() {
        Face x = check.make(40, 2);
        Check.fill(x, 0, 3, 0, 4, 0, 1, 0, 3, 0, 1, 0, 4, 0);
        check.due("distinct", x.distinct(0, 0, 3), 3);
        check.file("distinct", x, 0, 1, 0, 3, 0, 4, 0);
        check.told("distinct", x, 11, 6, 5, 2, 1, 6, 38);
        check.runs("distinct", x, 2, 3);
    }

    private static void distinctMindsTags() {
        Face x = check.make(40, 1);
        Check.fill(x, 0, 1, 2, 1, 1, 1, 2, 0, 1, 0, 1, 1, 1);
        check.due("distinct", x.distinct(0, 1, 3), 3);
        check.file("distinct", x, 1, 0, 1, 1, 1, 1, 2);
        check.due("sort keeps all", x.sort(0, 2, 3, 1), 6);
        check.file("sort keeps all", x, 2, 0, 1, 0, 1, 1, 1, 1, 1, 1, 2, 1, 2);
        // the record 0, 0 is the first of its run: nothing is the same ahead of it
        Check.fill(x, 3, 0, 0, 0, 0);
        check.due("zeros", x.distinct(3, 4, 3), 1);
        check.file("zeros", x, 4, 0, 0);
    }

    private static void distinctFailsAsSort() {
        Face x = check.make(4, 1);
        Check.fill(x, 0, 1, 1, 1, 1, 1, 1);
        check.due("one page is enough for what is left", x.distinct(0, 1, 3), 1);
        check.due("none is", x.distinct(0, 1, 3), FULL);
        check.file("as before", x, 0, 1, 1, 1, 1, 1, 1);
        check.file("as before", x, 1, 1, 1);
        check.due("FREE", x.told(6), 0);
    }
}
