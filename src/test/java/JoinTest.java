/** Promises 6, 10 and 11: join, and what told() and run() say of it. */
final class JoinTest {
    private static final int NONE = ExternalSort.NONE;
    private static final int FULL = -2;
    private static final int TOO_LARGE = -3;
    private static final Check check = new Check("JoinTest");

    public static void main(String[] args) {
        pairsOfLikeKeys();
        likeKeysByWhenTheyCame();
        withItselfToItself();
        runsOfBoth();
        nothingToPair();
        tooLarge();
        tooLargeComesBehindSorting();
        tooLargeComesAheadOfFull();
        sortedPagesAreFreeAheadOfWriting();
        oldPagesAreNot();
        fullInTheSecondSorting();
        peakOfWhatComes();
        wrongArguments();
        check.end();
    }

    private static void pairsOfLikeKeys() {
        Face x = check.make(40, 2);
        Check.fill(x, 0, 1, 10, 2, 20, 2, 21, 3, 30);
        Check.fill(x, 1, 2, 200, 3, 300, 2, 201, 4, 400);
        check.due("join", x.join(0, 1, 2, 3), 5);
        check.file("join", x, 2, 20, 200, 20, 201, 21, 200, 21, 201, 30, 300);
        check.file("a stays", x, 0, 1, 10, 2, 20, 2, 21, 3, 30);
        check.file("b stays", x, 1, 2, 200, 3, 300, 2, 201, 4, 400);
        check.told("join", x, 15, 8, 7, 2, 0, 8, 33, 40, 2);
        check.runs("join", x, 4, 4);
        check.due("the other way", x.join(1, 0, 2, 3), 5);
        check.file("the other way", x, 2, 200, 20, 200, 21, 201, 20, 201, 21, 300, 30);
    }

    private static void likeKeysByWhenTheyCame() {
        Face x = check.make(40, 1);
        Check.fill(x, 0, 5, 9, 5, 3, 4, 7, 5, 6);
        Check.fill(x, 1, 5, 2, 6, 0, 5, 1);
        check.due("join", x.join(0, 1, 2, 4), 6);
        check.file("join", x, 2, 9, 2, 9, 1, 3, 2, 3, 1, 6, 2, 6, 1);
    }

    private static void withItselfToItself() {
        Face x = check.make(40, 4);
        Check.fill(x, 3, 7, 1, 5, 2, 7, 3);
        check.due("join", x.join(3, 3, 3, 3), 5);
        check.file("join", x, 3, 2, 2, 1, 1, 1, 3, 3, 1, 3, 3);
        check.told("join", x, 8, 4, 4, 2, 0, 3, 38);
        check.runs("join", x, 3, 3);
    }

    /** a has the runs 3 | 2 | 1 (two passes), b the runs 2 3 | 1 (one pass). */
    private static void runsOfBoth() {
        Face x = check.make(40, 1);
        Check.fill(x, 0, 3, 1, 2, 2, 1, 3);
        Check.fill(x, 1, 2, 4, 3, 5, 1, 6);
        check.due("join", x.join(0, 1, 1, 3), 3);
        check.file("join", x, 1, 3, 6, 2, 4, 1, 5);
        // a: 3 read, 3 written; 2 and 2; 3 and 3. b: 3 and 3; 3 and 3. Then 6 read, 3 written.
        check.told("join", x, 37, 20, 17, 5, 3, 12, 34);
        check.runs("join", x, 1, 1, 1, 2, 1);
    }

    private static void nothingToPair() {
        Face x = check.make(40, 1);
        Check.fill(x, 0, 1, 1, 2, 2);
        Check.fill(x, 1, 3, 3);
        Check.fill(x, 2, 9, 9);
        check.due("no like keys", x.join(0, 1, 2, 3), 0);
        check.file("no like keys", x, 2);
        check.told("no like keys", x, 9, 6, 3, 2, 0, 7, 37);
        check.due("b is empty", x.join(0, 2, 0, 3), 0);
        check.told("b is empty", x, 6, 4, 2, 1, 0, 5, 39);
        check.runs("b is empty", x, 2);
        check.due("a is empty", x.join(0, 1, 1, 3), 0);
        check.told("a is empty", x, 3, 2, 1, 1, 0, 2, 40);
        check.due("both are empty", x.join(0, 1, 2, 3), 0);
        check.told("both are empty", x, 0, 0, 0, 0, 0, 0, 40);
    }

    private static void tooLarge() {
        Face x = check.make(100, 2);
        Check.fill(x, 0, 5, 1, 5, 2, 5, 3);
        Check.fill(x, 1, 5, 4, 6, 6, 5, 5);
        check.due("a may have more than H", x.join(0, 1, 2, 3), 6);
        check.file("a may have more than H", x, 2, 1, 4, 1, 5, 2, 4, 2, 5, 3, 4, 3, 5);
        int[] before = {x.told(0), x.told(1), x.told(2), x.told(3), x.told(4), x.told(5), x.told(6)};
        check.due("b may not", x.join(1, 0, 2, 3), TOO_LARGE);
        check.file("as before", x, 0, 5, 1, 5, 2, 5, 3);
        check.file("as before", x, 1, 5, 4, 6, 6, 5, 5);
        check.file("as before", x, 2, 1, 4, 1, 5, 2, 4, 2, 5, 3, 4, 3, 5);
        check.told("as before", x, before);
        check.runs("as before", x, 3, 3);
        check.due("with more budget it may", x.join(1, 0, 2, 4), 6);
        check.due("a key that a has not", x.join(3, 0, 2, 3), TOO_LARGE);
    }

    private static void tooLargeComesBehindSorting() {
        Face x = check.make(5, 1);
        Check.fill(x, 0, 5, 1, 5, 2);
        check.due("FULL in sorting b", x.join(0, 0, 1, 3), FULL);
        Face y = check.make(6, 1);
        Check.fill(y, 0, 5, 1, 5, 2);
        check.due("too large", y.join(0, 0, 1, 3), TOO_LARGE);
        check.due("FREE", y.told(6), 4);
    }

    private static void tooLargeComesAheadOfFull() {
        Face x = check.make(9, 1);
        Check.fill(x, 0, 5, 1, 5, 2, 5, 3);
        check.due("nine pairs find six pages", x.join(0, 0, 1, 5), FULL);
        check.due("and are too many for H of 2", x.join(0, 0, 1, 4), TOO_LARGE);
    }

    private static void sortedPagesAreFreeAheadOfWriting() {
        for (int pages = 10; pages <= 13; pages++) {
            Face x = check.make(pages, 1);
            Check.fill(x, 0, 5, 1, 5, 2, 5, 3);
            // nine pages are in use behind the sortings; six of them go ahead of nine new ones
            check.due("nine pairs, " + pages, x.join(0, 0, 0, 5), pages < 12 ? FULL : 9);
            check.due("FREE, " + pages, x.told(6), pages < 12 ? pages - 3 : pages - 9);
            check.due("peak, " + pages, x.told(5), pages < 12 ? 0 : 12);
        }
    }

    private static void oldPagesAreNot() {
        for (int pages = 12; pages <= 13; pages++) {
            Face x = check.make(pages, 1);
            Check.fill(x, 0, 5, 1, 5, 2, 5, 3);
            Check.fill(x, 1, 8, 8);
            check.due("nine pairs, " + pages, x.join(0, 0, 1, 5), pages < 13 ? FULL : 9);
            check.due("size, " + pages, x.size(1), pages < 13 ? 1 : 9);
        }
    }

    private static void fullInTheSecondSorting() {
        Face x = check.make(7, 1);
        Check.fill(x, 0, 1, 1, 2, 2);
        Check.fill(x, 1, 3, 3, 4, 4);
        check.due("three pages for four", x.join(0, 1, 2, 3), FULL);
        check.due("FREE", x.told(6), 3);
        check.file("as before", x, 0, 1, 1, 2, 2);
        check.file("as before", x, 1, 3, 3, 4, 4);
        check.file("as before", x, 2);
    }

    private static void peakOfWhatComes() {
        Face x = check.make(60, 1);
        Check.fill(x, 0, 1, 1, 1, 2, 1, 3, 1, 4);
        Check.fill(x, 5, 0, 0);
        check.due("join", x.join(0, 0, 1, 16), 16);
        // 5 and 16 that come are more than 5 and twice the 4 that were sorted
        check.told("join", x, 40, 16, 24, 2, 0, 21, 39);
    }

    private static void wrongArguments() {
        Face x = check.make(20, 2);
        Check.fill(x, 0, 3, 1);
        for (int file : new int[] {-1, 6, Integer.MIN_VALUE, Integer.MAX_VALUE}) {
            check.due("a is " + file, x.join(file, 0, 0, 3), NONE);
            check.due("b is " + file, x.join(0, file, 0, 3), NONE);
            check.due("to is " + file, x.join(0, 0, file, 3), NONE);
        }
        for (int budget : new int[] {2, 17, 0, -1, Integer.MIN_VALUE, Integer.MAX_VALUE}) {
            check.due("budget is " + budget, x.join(0, 0, 0, budget), NONE);
        }
        check.file("nothing changed", x, 0, 3, 1);
        check.told("nothing done", x, 0, 0, 0, 0, 0, 0, 19);
    }
}
