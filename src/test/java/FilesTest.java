/** Promises 1, 2, 3, 7, 8 and 9: a new object, append, drop, size, key, tag. */
final class FilesTest {
    private static final int NONE = ExternalSort.NONE;
    private static final Check check = new Check("FilesTest");

    public static void main(String[] args) {
        sizesOfTheDisk();
        newObjectIsEmpty();
        appendFillsPages();
        appendOnFullDisk();
        appendBehindSorted();
        appendIsNoTransfer();
        dropFreesPages();
        noSuchFile();
        noSuchRecord();
        anyKeysAndTags();
        check.end();
    }

    private static void sizesOfTheDisk() {
        int[][] cases = {
            {0, 0, 1, 1}, {-7, -1, 1, 1}, {1, 1, 1, 1}, {2, 2, 2, 2}, {511, 15, 511, 15}, {512, 16, 512, 16},
            {513, 17, 512, 16}, {Integer.MAX_VALUE, Integer.MIN_VALUE, 512, 1},
            {Integer.MIN_VALUE, Integer.MAX_VALUE, 1, 16},
        };
        for (int[] c : cases) {
            Face x = check.make(c[0], c[1]);
            String when = "new(" + c[0] + ", " + c[1] + ")";
            check.told(when, x, 0, 0, 0, 0, 0, 0, c[2], c[2], c[3]);
        }
    }

    private static void newObjectIsEmpty() {
        Face x = check.make(5, 3);
        for (int file = 0; file < 6; file++) {
            check.file("new", x, file);
            check.due("new: key", x.key(file, 0), 0);
            check.due("new: tag", x.tag(file, 0), 0);
            check.due("new: drop", x.drop(file), 0);
        }
        check.runs("new", x);
        check.due("NONE", NONE, -1);
    }

    private static void appendFillsPages() {
        Face x = check.make(6, 2);
        int[] freeAfter = {5, 5, 4, 4, 3};
        for (int i = 0; i < freeAfter.length; i++) {
            check.due("append " + i, x.append(3, 10 - i, i), i + 1);
            check.due("FREE after append " + i, x.told(6), freeAfter[i]);
        }
        check.due("append to another", x.append(5, 1, 2), 1);
        check.due("FREE after another", x.told(6), 2);
        check.file("appended", x, 3, 10, 0, 9, 1, 8, 2, 7, 3, 6, 4);
        check.file("appended", x, 5, 1, 2);
    }

    private static void appendOnFullDisk() {
        Face x = check.make(2, 2);
        Check.fill(x, 0, 1, 1, 2, 2);
        check.due("append takes the last page", x.append(1, 3, 3), 1);
        check.due("append on the full disk", x.append(0, 4, 4), NONE);
        check.due("append to an empty file", x.append(2, 4, 4), NONE);
        check.due("append where a page has room", x.append(1, 5, 5), 2);
        check.due("append where it has none", x.append(1, 6, 6), NONE);
        check.file("full", x, 0, 1, 1, 2, 2);
        check.file("full", x, 1, 3, 3, 5, 5);
        check.file("full", x, 2);
        check.due("FREE", x.told(6), 0);
    }

    private static void appendBehindSorted() {
        Face x = check.make(20, 2);
        Check.fill(x, 0, 3, 1, 2, 2, 1, 3);
        check.due("sort", x.sort(0, 0, 3, 0), 3);
        check.due("append in the last page", x.append(0, 0, 4), 4);
        check.due("FREE", x.told(6), 18);
        check.due("append in a new page", x.append(0, -1, 5), 5);
        check.due("FREE", x.told(6), 17);
        check.file("behind", x, 0, 1, 3, 2, 2, 3, 1, 0, 4, -1, 5);
    }

    private static void appendIsNoTransfer() {
        Face x = check.make(20, 1);
        Check.fill(x, 0, 3, 1, 2, 2);
        check.told("appended", x, 0, 0, 0, 0, 0, 0, 18);
        x.sort(0, 1, 3, 0);
        int[] before = {x.told(0), x.told(1), x.told(2), x.told(3), x.told(4), x.told(5)};
        Check.fill(x, 2, 3, 1, 2, 2, 5, 5, 6, 6, 7, 7, 8, 8);
        x.drop(1);
        check.told("appended and dropped", x, before);
    }

    private static void dropFreesPages() {
        Face x = check.make(9, 4);
        Check.fill(x, 0, 1, 1, 2, 2, 3, 3, 4, 4, 5, 5);
        Check.fill(x, 1, 6, 6);
        check.due("drop(0)", x.drop(0), 2);
        check.due("FREE", x.told(6), 8);
        check.file("dropped", x, 0);
        check.due("key of what is gone", x.key(0, 0), 0);
        check.file("kept", x, 1, 6, 6);
        check.due("drop(0) again", x.drop(0), 0);
        check.due("append behind a drop", x.append(0, 7, 8), 1);
        check.file("anew", x, 0, 7, 8);
        check.due("drop(1)", x.drop(1), 1);
        check.due("FREE", x.told(6), 8);
    }

    private static void noSuchFile() {
        Face x = check.make(9, 4);
        Check.fill(x, 0, 1, 1);
        Check.fill(x, 5, 1, 1);
        for (int file : new int[] {-1, 6, 7, Integer.MIN_VALUE, Integer.MAX_VALUE}) {
            check.due("append(" + file + ")", x.append(file, 1, 1), NONE);
            check.due("drop(" + file + ")", x.drop(file), NONE);
            check.due("size(" + file + ")", x.size(file), NONE);
            check.due("key(" + file + ")", x.key(file, 0), 0);
            check.due("tag(" + file + ")", x.tag(file, 0), 0);
        }
        check.due("FREE", x.told(6), 7);
    }

    private static void noSuchRecord() {
        Face x = check.make(9, 4);
        Check.fill(x, 0, 11, 12, 13, 14);
        for (int i : new int[] {-1, 2, 3, 4, 100, Integer.MIN_VALUE, Integer.MAX_VALUE}) {
            check.due("key(0, " + i + ")", x.key(0, i), 0);
            check.due("tag(0, " + i + ")", x.tag(0, i), 0);
        }
        // the pages have been used: what was there is no record of a file any more
        Check.fill(x, 1, 21, 22, 23, 24, 25, 26, 27, 28, 31, 32, 33, 34);
        x.drop(1);
        Check.fill(x, 1, 41, 42);
        Check.fill(x, 2, 51, 52);
        for (int file = 1; file <= 2; file++) {
            check.due("key(" + file + ", 1)", x.key(file, 1), 0);
            check.due("tag(" + file + ", 1)", x.tag(file, 1), 0);
        }
    }

    private static void anyKeysAndTags() {
        int low = Integer.MIN_VALUE;
        int high = Integer.MAX_VALUE;
        Face x = check.make(40, 1);
        Check.fill(x, 0, high, low, low, high, 0, 0, -1, low, low, low);
        check.file("as appended", x, 0, high, low, low, high, 0, 0, -1, low, low, low);
        x.sort(0, 1, 3, 0);
        check.file("mode 0", x, 1, low, high, low, low, -1, low, 0, 0, high, low);
        x.sort(0, 1, 3, 1);
        check.file("mode 1", x, 1, low, low, low, high, -1, low, 0, 0, high, low);
        x.sort(0, 1, 3, 2);
        check.file("mode 2", x, 1, high, low, 0, 0, -1, low, low, high, low, low);
    }
}
