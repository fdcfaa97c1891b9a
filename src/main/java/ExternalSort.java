/**
 * Sorting on a disk of pages with few of them in memory: runs by replacement selection, merging by a
 * tree of losers, records dropped that are there twice, two files joined by sorting. Each page that is
 * read or written is counted.
 *
 * <p>All rows are made with the object and used again by every call: no call makes an object.
 */
public final class ExternalSort {
    public static final int NONE = -1;

    private static final int FULL = -2;
    private static final int TOO_LARGE = -3;

    private static final int MOST_PAGES = 512;
    private static final int MOST_RECORDS = 16;
    private static final int FILES = 6;
    private static final int LEAST_BUDGET = 3;
    private static final int MOST_BUDGET = 16;

    private static final int RISING = 0;
    private static final int RISING_WITH_TAGS = 1;
    private static final int FALLING = 2;

    /** A page's owner is a file's number or one of these: runs and what is not a file yet are WORK. */
    private static final int NOBODY = -1;
    private static final int WORK = FILES;

    private final Disk disk;
    private final Output output;
    private final Sorter sorter;
    private final Joiner joiner;
    /** What is told is of the latest call that was done, so the call at hand is counted apart. */
    private final Tally pending;
    private final Tally latest;
    private final int[] fileHead = new int[FILES];
    private final int[] fileCount = new int[FILES];

    public ExternalSort(int pages, int records) {
        int pageCount = Math.max(1, Math.min(MOST_PAGES, pages));
        int recordCount = Math.max(1, Math.min(MOST_RECORDS, records));
        // each run has a page of its own at least, and a join makes the runs of two sortings
        pending = new Tally(2 * pageCount);
        latest = new Tally(2 * pageCount);
        disk = new Disk(pageCount, recordCount, pending);
        output = new Output(disk);
        sorter = new Sorter(disk, output);
        joiner = new Joiner(disk, output);
        for (int file = 0; file < FILES; file++) {
            fileHead[file] = NONE;
        }
    }

    public int append(int file, int key, int tag) {
        if (!isFile(file)) {
            return NONE;
        }
        int count = fileCount[file];
        int slot = disk.slotOf(count);
        int page = slot == 0 ? addPage(file) : disk.pageOf(fileHead[file], count);
        if (page == NONE) {
            return NONE;
        }
        disk.store(page, slot, key, tag);
        fileCount[file] = count + 1;
        return count + 1;
    }

    public int drop(int file) {
        if (!isFile(file)) {
            return NONE;
        }
        fileHead[file] = NONE;
        fileCount[file] = 0;
        return disk.releaseAll(file);
    }

    public int sort(int from, int to, int budget, int mode) {
        if (!isFile(from) || !isFile(to) || !isBudget(budget) || !isMode(mode)) {
            return NONE;
        }
        begin(budget, mode, false);
        return settleSorted(to, sorter.arrange(fileHead[from], fileCount[from]));
    }

    public int distinct(int from, int to, int budget) {
        if (!isFile(from) || !isFile(to) || !isBudget(budget)) {
            return NONE;
        }
        begin(budget, RISING_WITH_TAGS, true);
        return settleSorted(to, sorter.arrange(fileHead[from], fileCount[from]));
    }

    public int join(int a, int b, int to, int budget) {
        if (!isFile(a) || !isFile(b) || !isFile(to) || !isBudget(budget)) {
            return NONE;
        }
        begin(budget, RISING, false);
        if (!sorter.arrange(fileHead[a], fileCount[a])) {
            return giveUp(FULL);
        }
        int headOfA = sorter.resultHead;
        int countOfA = sorter.resultCount;
        if (!sorter.arrange(fileHead[b], fileCount[b])) {
            return giveUp(FULL);
        }
        joiner.look(headOfA, countOfA, sorter.resultHead, sorter.resultCount);
        if (joiner.largestGroupOfB() > sorter.room()) {
            return giveUp(TOO_LARGE);
        }
        if (!joiner.pairsFit() || !joiner.writePairs()) {
            return giveUp(FULL);
        }
        return settle(to, output.head, output.count);
    }

    public int size(int file) {
        return isFile(file) ? fileCount[file] : NONE;
    }

    public int key(int file, int i) {
        return hasRecord(file, i) ? disk.keyAt(disk.pageOf(fileHead[file], i), disk.slotOf(i)) : 0;
    }

    public int tag(int file, int i) {
        return hasRecord(file, i) ? disk.tagAt(disk.pageOf(fileHead[file], i), disk.slotOf(i)) : 0;
    }

    public int told(int what) {
        switch (what) {
            case 0:
                return latest.reads + latest.writes;
            case 1:
                return latest.reads;
            case 2:
                return latest.writes;
            case 3:
                return latest.runs;
            case 4:
                return latest.passes;
            case 5:
                return latest.peak;
            case 6:
                return disk.freePages();
            case 7:
                return disk.pages;
            case 8:
                return disk.records;
            default:
                return NONE;
        }
    }

    public int run(int i) {
        return latest.lengthOf(i);
    }

    private static boolean isFile(int file) {
        return file >= 0 && file < FILES;
    }

    private static boolean isBudget(int budget) {
        return budget >= LEAST_BUDGET && budget <= MOST_BUDGET;
    }

    private static boolean isMode(int mode) {
        return mode >= RISING && mode <= FALLING;
    }

    private boolean hasRecord(int file, int i) {
        return isFile(file) && i >= 0 && i < fileCount[file];
    }

    /** A new last page for a file whose pages are all full; NONE if the disk is FULL. */
    private int addPage(int file) {
        int page = disk.take(file);
        if (page == NONE) {
            return NONE;
        }
        if (fileCount[file] == 0) {
            fileHead[file] = page;
        } else {
            disk.link(disk.pageOf(fileHead[file], fileCount[file] - 1), page);
        }
        return page;
    }

    private void begin(int budget, int mode, boolean once) {
        pending.begin(disk.usedPages());
        sorter.prepare(budget, mode, once);
    }

    private int settleSorted(int to, boolean sorted) {
        return sorted ? settle(to, sorter.resultHead, sorter.resultCount) : giveUp(FULL);
    }

    private int settle(int to, int head, int count) {
        disk.releaseAll(to);
        disk.handOver(WORK, to);
        fileHead[to] = head;
        fileCount[to] = count;
        latest.copyFrom(pending);
        return count;
    }

    /** No file's page is touched before all is done, so to undo a call is to free what it worked on. */
    private int giveUp(int answer) {
        disk.releaseAll(WORK);
        return answer;
    }

    /** Below 0: the first record stands ahead in the mode's ORDER; 0: the two are alike in it. */
    private static int inOrder(int mode, int key, int tag, int otherKey, int otherTag) {
        if (key != otherKey) {
            boolean lower = key < otherKey;
            return lower == (mode != FALLING) ? -1 : 1;
        }
        if (mode == RISING_WITH_TAGS && tag != otherTag) {
            return tag < otherTag ? -1 : 1;
        }
        return 0;
    }

    /** What one sort(), distinct() or join() did. */
    private static final class Tally {
        int reads;
        int writes;
        int runs;
        int passes;
        int peak;
        private final int[] lengths;

        Tally(int mostRuns) {
            lengths = new int[Math.max(1, mostRuns)];
        }

        void begin(int usedPages) {
            reads = 0;
            writes = 0;
            runs = 0;
            passes = 0;
            peak = usedPages;
        }

        void addRun(int length) {
            if (runs >= 0 && runs < lengths.length) {
                lengths[runs] = length;
                runs++;
            }
        }

        int lengthOf(int i) {
            return i >= 0 && i < runs && i < lengths.length ? lengths[i] : NONE;
        }

        void copyFrom(Tally other) {
            reads = other.reads;
            writes = other.writes;
            runs = other.runs;
            passes = other.passes;
            peak = other.peak;
            for (int i = 0; i < other.runs && i < other.lengths.length && i < lengths.length; i++) {
                lengths[i] = other.lengths[i];
            }
        }
    }

    /** The pages, who has each of them, and which page follows which in a file or a run. */
    private static final class Disk {
        final int pages;
        final int records;
        final Tally tally;
        private final int[] keys;
        private final int[] tags;
        private final int[] owner;
        private final int[] follower;
        private final int[] free;
        private int freeCount;

        Disk(int pageCount, int recordCount, Tally tally) {
            pages = Math.max(1, pageCount);
            records = Math.max(1, recordCount);
            this.tally = tally;
            keys = new int[pages * records];
            tags = new int[pages * records];
            owner = new int[pages];
            follower = new int[pages];
            free = new int[pages];
            for (int page = 0; page < pages; page++) {
                owner[page] = NOBODY;
                follower[page] = NONE;
                free[page] = page;
            }
            freeCount = pages;
        }

        int freePages() {
            return freeCount;
        }

        int usedPages() {
            return pages - freeCount;
        }

        int pagesFor(int count) {
            return records < 1 || count < 1 ? 0 : (count - 1) / records + 1;
        }

        int slotOf(int record) {
            return records < 1 || record < 0 ? 0 : record % records;
        }

        /** The page of a record in the chain of pages that begins with head; NONE if it ends sooner. */
        int pageOf(int head, int record) {
            int hops = records < 1 || record < 0 ? 0 : record / records;
            int page = head;
            for (int hop = 0; hop < hops; hop++) {
                page = nextOf(page);
            }
            return page;
        }

        int nextOf(int page) {
            return isPage(page) ? follower[page] : NONE;
        }

        void link(int page, int next) {
            if (isPage(page)) {
                follower[page] = next;
            }
        }

        int keyAt(int page, int slot) {
            return isCell(page, slot) ? keys[page * records + slot] : 0;
        }

        int tagAt(int page, int slot) {
            return isCell(page, slot) ? tags[page * records + slot] : 0;
        }

        void store(int page, int slot, int key, int tag) {
            if (isCell(page, slot)) {
                keys[page * records + slot] = key;
                tags[page * records + slot] = tag;
            }
        }

        /** A FREE page becomes the owner's; NONE: the disk is FULL. */
        int take(int who) {
            if (freeCount < 1 || freeCount > free.length) {
                return NONE;
            }
            int page = free[freeCount - 1];
            if (!isPage(page)) {
                return NONE;
            }
            freeCount--;
            owner[page] = who;
            follower[page] = NONE;
            int used = pages - freeCount;
            tally.peak = used > tally.peak ? used : tally.peak;
            return page;
        }

        void release(int page) {
            if (isPage(page) && owner[page] != NOBODY && freeCount >= 0 && freeCount < free.length) {
                owner[page] = NOBODY;
                free[freeCount] = page;
                freeCount++;
            }
        }

        int releaseAll(int who) {
            int before = freeCount;
            for (int page = 0; page < owner.length; page++) {
                if (owner[page] == who) {
                    release(page);
                }
            }
            return freeCount - before;
        }

        void handOver(int from, int to) {
            for (int page = 0; page < owner.length; page++) {
                if (owner[page] == from) {
                    owner[page] = to;
                }
            }
        }

        private boolean isPage(int page) {
            return page >= 0 && page < pages;
        }

        private boolean isCell(int page, int slot) {
            return page >= 0 && page < pages && slot >= 0 && slot < records;
        }
    }

    /** The pages of memory that records are read through: a lane for each file or run that is read. */
    private static final class Inputs {
        private static final int LANES = MOST_BUDGET - 1;

        private final Disk disk;
        private final int[] keys;
        private final int[] tags;
        private final int[] nextPage = new int[LANES];
        private final int[] unread = new int[LANES];
        private final int[] at = new int[LANES];
        private final int[] filled = new int[LANES];

        Inputs(Disk disk) {
            this.disk = disk;
            keys = new int[LANES * disk.records];
            tags = new int[LANES * disk.records];
        }

        void open(int lane, int head, int count) {
            if (lane >= 0 && lane < LANES) {
                nextPage[lane] = head;
                unread[lane] = count;
                at[lane] = 0;
                filled[lane] = 0;
            }
        }

        /** Whether no record is left of the page in memory. */
        boolean isUsedUp(int lane) {
            return lane < 0 || lane >= LANES || at[lane] >= filled[lane];
        }

        boolean hasMore(int lane) {
            return lane >= 0 && lane < LANES && (at[lane] < filled[lane] || unread[lane] > 0);
        }

        /** Reads the lane's next page and says which one that was; NONE if there was none more. */
        int readPage(int lane) {
            if (lane < 0 || lane >= LANES || unread[lane] < 1) {
                return NONE;
            }
            int page = nextPage[lane];
            int count = Math.min(disk.records, unread[lane]);
            int base = lane * disk.records;
            for (int slot = 0; slot < count && base + slot < keys.length; slot++) {
                keys[base + slot] = disk.keyAt(page, slot);
                tags[base + slot] = disk.tagAt(page, slot);
            }
            nextPage[lane] = disk.nextOf(page);
            unread[lane] -= count;
            at[lane] = 0;
            filled[lane] = count;
            disk.tally.reads++;
            return page;
        }

        int keyOf(int lane) {
            if (isUsedUp(lane)) {
                return 0;
            }
            int cell = lane * disk.records + at[lane];
            return cell >= 0 && cell < keys.length ? keys[cell] : 0;
        }

        int tagOf(int lane) {
            if (isUsedUp(lane)) {
                return 0;
            }
            int cell = lane * disk.records + at[lane];
            return cell >= 0 && cell < tags.length ? tags[cell] : 0;
        }

        void step(int lane) {
            if (!isUsedUp(lane)) {
                at[lane]++;
            }
        }
    }

    /** The page of memory that a run or a new file is written through. */
    private static final class Output {
        int head;
        int count;
        int lastKey;
        int lastTag;
        private final Disk disk;
        private final int[] keys;
        private final int[] tags;
        private boolean once;
        private int filled;
        private int tail;

        Output(Disk disk) {
            this.disk = disk;
            keys = new int[disk.records];
            tags = new int[disk.records];
        }

        /** With once, a record is dropped that is the same as the one written last. */
        void open(boolean dropsRepeats) {
            once = dropsRepeats;
            head = NONE;
            tail = NONE;
            count = 0;
            filled = 0;
        }

        /** False: a page had to be written, and the disk is FULL. */
        boolean put(int key, int tag) {
            if (once && count > 0 && key == lastKey && tag == lastTag) {
                return true;
            }
            if (filled >= 0 && filled < keys.length) {
                keys[filled] = key;
                tags[filled] = tag;
                filled++;
            }
            lastKey = key;
            lastTag = tag;
            count++;
            return filled < keys.length || writePage();
        }

        boolean close() {
            return filled == 0 || writePage();
        }

        private boolean writePage() {
            int page = disk.take(WORK);
            if (page == NONE) {
                return false;
            }
            for (int slot = 0; slot < filled && slot < keys.length; slot++) {
                disk.store(page, slot, keys[slot], tags[slot]);
            }
            if (tail == NONE) {
                head = page;
            } else {
                disk.link(tail, page);
            }
            tail = page;
            filled = 0;
            disk.tally.writes++;
            return true;
        }
    }

    /** Knuth's tree of losers: each inner node keeps who lost there, node 0 who won in all. */
    private static final class LoserTree {
        private static final int RETIRED = Integer.MAX_VALUE;

        private final int[] rounds;
        private final int[] keys;
        private final int[] tags;
        private final int[] came;
        private final int[] losers;
        private int leaves;
        private int mode;

        LoserTree(int mostLeaves) {
            int room = Math.max(1, mostLeaves);
            rounds = new int[room];
            keys = new int[room];
            tags = new int[room];
            came = new int[room];
            losers = new int[room];
        }

        void begin(int leafCount, int order) {
            leaves = Math.max(0, Math.min(leafCount, losers.length));
            mode = order;
        }

        /** An earlier round wins over all records of later ones; of alike records wins the first to come. */
        void enter(int leaf, int round, int key, int tag, int arrival) {
            if (isLeaf(leaf)) {
                rounds[leaf] = round;
                keys[leaf] = key;
                tags[leaf] = tag;
                came[leaf] = arrival;
            }
        }

        void retire(int leaf) {
            if (isLeaf(leaf)) {
                rounds[leaf] = RETIRED;
            }
        }

        void build() {
            for (int node = 0; node < leaves; node++) {
                losers[node] = NONE;
            }
            for (int leaf = 0; leaf < leaves; leaf++) {
                climb(leaf);
            }
        }

        /** Plays a leaf's matches up to the top, or up to a node where nobody waits yet as a tree is built. */
        void climb(int leaf) {
            if (!isLeaf(leaf)) {
                return;
            }
            int winner = leaf;
            for (int node = (leaves + leaf) / 2; node > 0 && node < losers.length; node /= 2) {
                int waiting = losers[node];
                if (waiting == NONE) {
                    losers[node] = winner;
                    return;
                }
                if (beats(waiting, winner)) {
                    losers[node] = winner;
                    winner = waiting;
                }
            }
            losers[0] = winner;
        }

        int winner() {
            return leaves > 0 ? losers[0] : NONE;
        }

        int roundOf(int leaf) {
            return isLeaf(leaf) ? rounds[leaf] : RETIRED;
        }

        int keyOf(int leaf) {
            return isLeaf(leaf) ? keys[leaf] : 0;
        }

        int tagOf(int leaf) {
            return isLeaf(leaf) ? tags[leaf] : 0;
        }

        private boolean beats(int one, int other) {
            if (!isLeaf(one) || !isLeaf(other)) {
                return false;
            }
            if (rounds[one] != rounds[other]) {
                return rounds[one] < rounds[other];
            }
            int order = inOrder(mode, keys[one], tags[one], keys[other], tags[other]);
            return order == 0 ? came[one] < came[other] : order < 0;
        }

        private boolean isLeaf(int leaf) {
            return leaf >= 0 && leaf < leaves;
        }
    }

    /** Sorts the records of a chain of pages into a new one, by runs and passes of merging. */
    private static final class Sorter {
        private static final int FILE_LANE = 0;

        int resultHead;
        int resultCount;
        private final Disk disk;
        private final Output output;
        private final Inputs inputs;
        private final LoserTree tree;
        private final int[] runHead;
        private final int[] runCount;
        private int runs;
        private int budget;
        private int mode;
        private boolean once;

        Sorter(Disk disk, Output output) {
            this.disk = disk;
            this.output = output;
            inputs = new Inputs(disk);
            tree = new LoserTree(Math.max(MOST_BUDGET - 1, (MOST_BUDGET - 2) * disk.records));
            runHead = new int[disk.pages];
            runCount = new int[disk.pages];
        }

        void prepare(int budgetPages, int order, boolean dropsRepeats) {
            budget = budgetPages;
            mode = order;
            once = dropsRepeats;
        }

        /** The document's H: how many records are in memory as runs are made. */
        int room() {
            return (budget - 2) * disk.records;
        }

        /** False: the disk is FULL; else the result's head and count tell what was sorted. */
        boolean arrange(int head, int count) {
            runs = 0;
            if (!makeRuns(head, count)) {
                return false;
            }
            for (int pass = 0; pass < runHead.length && runs > 1; pass++) {
                if (!mergePass()) {
                    return false;
                }
            }
            resultHead = runs > 0 ? runHead[0] : NONE;
            resultCount = runs > 0 ? runCount[0] : 0;
            return true;
        }

        private boolean makeRuns(int head, int count) {
            int run = 0;
            int inMemory = fillMemory(head, count);
            tree.build();
            output.open(once);
            for (int done = 0; done < count; done++) {
                int leaf = tree.winner();
                if (tree.roundOf(leaf) != run) {
                    if (!endRun()) {
                        return false;
                    }
                    run++;
                    output.open(once);
                }
                if (!output.put(tree.keyOf(leaf), tree.tagOf(leaf))) {
                    return false;
                }
                replace(leaf, run, inMemory + done);
                tree.climb(leaf);
            }
            return count < 1 || endRun();
        }

        private int fillMemory(int head, int count) {
            int inMemory = Math.min(room(), count);
            inputs.open(FILE_LANE, head, count);
            tree.begin(inMemory, mode);
            for (int leaf = 0; leaf < inMemory; leaf++) {
                takeInto(leaf, 0, leaf);
            }
            return inMemory;
        }

        /** What stands ahead of the record just written can't come to its run any more. */
        private void replace(int leaf, int run, int arrival) {
            if (!inputs.hasMore(FILE_LANE)) {
                tree.retire(leaf);
                return;
            }
            takeInto(leaf, run, arrival);
            int key = tree.keyOf(leaf);
            int tag = tree.tagOf(leaf);
            if (inOrder(mode, key, tag, output.lastKey, output.lastTag) < 0) {
                tree.enter(leaf, run + 1, key, tag, arrival);
            }
        }

        private void takeInto(int leaf, int round, int arrival) {
            if (inputs.isUsedUp(FILE_LANE)) {
                inputs.readPage(FILE_LANE);
            }
            tree.enter(leaf, round, inputs.keyOf(FILE_LANE), inputs.tagOf(FILE_LANE), arrival);
            inputs.step(FILE_LANE);
        }

        private boolean endRun() {
            if (!output.close()) {
                return false;
            }
            disk.tally.addRun(output.count);
            keepRun(runs, output.head, output.count);
            runs++;
            return true;
        }

        private void keepRun(int i, int head, int count) {
            if (i >= 0 && i < runHead.length) {
                runHead[i] = head;
                runCount[i] = count;
            }
        }

        private boolean mergePass() {
            int width = Math.max(2, budget - 1);
            int before = Math.min(runs, runHead.length);
            int after = 0;
            for (int first = 0; first < before; first += width) {
                int lanes = Math.min(width, before - first);
                if (lanes == 1) {
                    keepRun(after, runHead[first], runCount[first]);
                } else if (mergeRuns(first, lanes)) {
                    keepRun(after, output.head, output.count);
                } else {
                    return false;
                }
                after++;
            }
            runs = after;
            disk.tally.passes++;
            return true;
        }

        private boolean mergeRuns(int first, int lanes) {
            int total = openRuns(first, lanes);
            tree.build();
            output.open(once);
            for (int done = 0; done < total; done++) {
                int lane = tree.winner();
                int key = tree.keyOf(lane);
                int tag = tree.tagOf(lane);
                inputs.step(lane);
                // ahead of the writing, as it may need the page that is FREE by this reading
                if (inputs.isUsedUp(lane)) {
                    disk.release(inputs.readPage(lane));
                }
                enterNext(lane);
                tree.climb(lane);
                if (!output.put(key, tag)) {
                    return false;
                }
            }
            return output.close();
        }

        /** How many records the runs have together. */
        private int openRuns(int first, int lanes) {
            int total = 0;
            tree.begin(lanes, mode);
            for (int lane = 0; lane < lanes && first + lane < runHead.length; lane++) {
                inputs.open(lane, runHead[first + lane], runCount[first + lane]);
                disk.release(inputs.readPage(lane));
                enterNext(lane);
                total += runCount[first + lane];
            }
            return total;
        }

        private void enterNext(int lane) {
            if (inputs.hasMore(lane)) {
                tree.enter(lane, 0, inputs.keyOf(lane), inputs.tagOf(lane), lane);
            } else {
                tree.retire(lane);
            }
        }
    }

    /** Pairs the records of like keys of two sorted chains of pages; its rows hold a's, then b's. */
    private static final class Joiner {
        private final Disk disk;
        private final Output output;
        private final int[] keys;
        private final int[] tags;
        /** Where a's records end, and b's behind them: as they are set, they are kept within the rows. */
        private int split;
        private int end;
        private int groupA;
        private int endA;
        private int groupB;
        private int endB;

        Joiner(Disk disk, Output output) {
            this.disk = disk;
            this.output = output;
            keys = new int[disk.pages * disk.records];
            tags = new int[disk.pages * disk.records];
        }

        /** Only a look: the pages count as read when it is clear that the pairs come. */
        void look(int headA, int countA, int headB, int countB) {
            split = copy(headA, countA, 0);
            end = copy(headB, countB, split);
        }

        int largestGroupOfB() {
            int most = 0;
            int length = 0;
            for (int i = split; i < end; i++) {
                length = i > split && keys[i] == keys[i - 1] ? length + 1 : 1;
                most = Math.max(most, length);
            }
            return most;
        }

        /** The sorted pages count as FREE here: they are so ahead of the first page that is written. */
        boolean pairsFit() {
            return disk.pagesFor(countPairs()) <= disk.freePages() + sortedPages();
        }

        boolean writePairs() {
            disk.tally.reads += sortedPages();
            disk.releaseAll(WORK);
            output.open(false);
            rewind();
            for (int turn = 0; turn < keys.length && findGroup(); turn++) {
                if (!writeGroup()) {
                    return false;
                }
            }
            return output.close();
        }

        private int copy(int head, int count, int from) {
            int to = Math.min(from + count, keys.length);
            int page = head;
            int slot = 0;
            for (int i = from; i < to; i++) {
                keys[i] = disk.keyAt(page, slot);
                tags[i] = disk.tagAt(page, slot);
                slot++;
                if (slot == disk.records) {
                    slot = 0;
                    page = disk.nextOf(page);
                }
            }
            return to;
        }

        private int sortedPages() {
            return disk.pagesFor(split) + disk.pagesFor(end - split);
        }

        /** The disk has 8192 records at the most, so the products of groups stay far from an int's end. */
        private int countPairs() {
            int sum = 0;
            rewind();
            for (int turn = 0; turn < keys.length && findGroup(); turn++) {
                sum += (endA - groupA) * (endB - groupB);
            }
            return sum;
        }

        private void rewind() {
            endA = 0;
            endB = split;
        }

        /** Goes on to the next key that both have; false if there is none more. */
        private boolean findGroup() {
            groupA = endA;
            groupB = endB;
            for (int turn = 0; turn < end && groupA < split && groupB < end; turn++) {
                if (keys[groupA] == keys[groupB]) {
                    endA = groupEnd(groupA, split);
                    endB = groupEnd(groupB, end);
                    return true;
                }
                if (keys[groupA] < keys[groupB]) {
                    groupA++;
                } else {
                    groupB++;
                }
            }
            return false;
        }

        private int groupEnd(int from, int limit) {
            for (int i = from + 1; i < limit; i++) {
                if (keys[i] != keys[from]) {
                    return i;
                }
            }
            return limit;
        }

        private boolean writeGroup() {
            for (int i = groupA; i < endA; i++) {
                for (int j = groupB; j < endB; j++) {
                    if (!output.put(tags[i], tags[j])) {
                        return false;
                    }
                }
            }
            return true;
        }
    }
}
