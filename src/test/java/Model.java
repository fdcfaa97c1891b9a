import java.util.ArrayList;
import java.util.Collections;
import java.util.List;
import java.util.Map;
import java.util.TreeMap;

/**
 * The document written a second time, as plainly as can be, to hold the class against: files are lists,
 * pages are only counted, and the first record is found by looking at all.
 *
 * <p>Each thing that a sentence of the document says has a method of its own where it can be, so that a test
 * can break that sentence alone (see Sentence).
 */
class Model implements Face {
    static final int NONE = -1;

    /** The call at hand is not done: FULL or too large. */
    static final class Refused extends Exception {
        private static final long serialVersionUID = 1L;

        final int answer;

        Refused(int answer) {
            this.answer = answer;
        }
    }

    /** A record in memory, and the run that it is for. */
    static final class Held {
        final int[] record;
        final int run;

        Held(int[] record, int run) {
            this.record = record;
            this.run = run;
        }
    }

    final int pages;
    final int records;
    final Map<Integer, List<int[]>> files = new TreeMap<>();
    /** The pages of runs, and of what is not a file yet. */
    int workPages;

    int reads;
    int writes;
    int passes;
    int peak;
    List<Integer> lengths = new ArrayList<>();
    int[] told = new int[6];
    List<Integer> toldLengths = new ArrayList<>();

    Model(int pages, int records) {
        this.pages = pages < 1 ? 1 : pages > 512 ? 512 : pages;
        this.records = records < 1 ? 1 : records > 16 ? 16 : records;
    }

    @Override
    public int append(int file, int key, int tag) {
        if (!isFile(file)) {
            return NONE;
        }
        int size = list(file).size();
        if (pagesOf(size + 1) > pagesOf(size) && free() < 1) {
            return NONE;
        }
        list(file).add(new int[] {key, tag});
        return size + 1;
    }

    @Override
    public int drop(int file) {
        if (!isFile(file)) {
            return NONE;
        }
        int gone = pagesOf(list(file).size());
        list(file).clear();
        return gone;
    }

    @Override
    public int sort(int from, int to, int budget, int mode) {
        boolean right = isFile(from) && isFile(to) && isBudget(budget) && isMode(mode);
        return right ? sorted(from, to, budget, mode, false) : NONE;
    }

    @Override
    public int distinct(int from, int to, int budget) {
        boolean right = isFile(from) && isFile(to) && isBudget(budget);
        return right ? sorted(from, to, budget, 1, true) : NONE;
    }

    @Override
    public int join(int a, int b, int to, int budget) {
        if (!isFile(a) || !isFile(b) || !isFile(to) || !isBudget(budget)) {
            return NONE;
        }
        begin(to);
        try {
            return done(to, joined(list(a), list(b), budget));
        } catch (Refused refused) {
            return failed(to, refused.answer);
        }
    }

    @Override
    public int size(int file) {
        return isFile(file) ? list(file).size() : NONE;
    }

    @Override
    public int key(int file, int i) {
        return hasRecord(file, i) ? list(file).get(i)[0] : 0;
    }

    @Override
    public int tag(int file, int i) {
        return hasRecord(file, i) ? list(file).get(i)[1] : 0;
    }

    @Override
    public int told(int what) {
        return what < 0 || what > 8 ? NONE
            : what < 6 ? told[what]
            : what == 6 ? free()
            : what == 7 ? pages : records;
    }

    @Override
    public int run(int i) {
        return i < 0 || i >= toldLengths.size() ? NONE : toldLengths.get(i);
    }

    @Override
    public int none() {
        return NONE;
    }

    List<int[]> list(int file) {
        return files.computeIfAbsent(file, any -> new ArrayList<>());
    }

    boolean isFile(int file) {
        return file >= 0 && file <= 5;
    }

    boolean isBudget(int budget) {
        return budget >= 3 && budget <= 16;
    }

    boolean isMode(int mode) {
        return mode >= 0 && mode <= 2;
    }

    boolean hasRecord(int file, int i) {
        return isFile(file) && i >= 0 && i < list(file).size();
    }

    int pagesOf(int count) {
        int full = count / records;
        return count % records == 0 ? full : full + 1;
    }

    int filePages() {
        int used = 0;
        for (List<int[]> file : files.values()) {
            used += pagesOf(file.size());
        }
        return used;
    }

    int free() {
        return pages - filePages() - workPages;
    }

    void begin(int to) {
        reads = 0;
        writes = 0;
        passes = 0;
        workPages = 0;
        peak = pages - free();
        lengths = new ArrayList<>();
    }

    int failed(int to, int answer) {
        workPages = 0;
        return answer;
    }

    int done(int to, List<int[]> result) {
        workPages = 0;
        files.put(to, new ArrayList<>(result));
        told = new int[] {reads + writes, reads, writes, lengths.size(), passes, peak};
        toldLengths = lengths;
        return result.size();
    }

    int sorted(int from, int to, int budget, int mode, boolean once) {
        begin(to);
        try {
            return done(to, arrange(list(from), budget, mode, once));
        } catch (Refused refused) {
            return failed(to, refused.answer);
        }
    }

    /** The document's H. */
    int roomOf(int budget) {
        return (budget - 2) * records;
    }

    int widthOf(int budget) {
        return budget - 1;
    }

    int compare(int mode, int[] one, int[] other) {
        int keys = Integer.compare(one[0], other[0]);
        if (mode == 2) {
            return -keys;
        }
        return keys == 0 && mode == 1 ? Integer.compare(one[1], other[1]) : keys;
    }

    void write(List<int[]> run, int[] record) throws Refused {
        run.add(record);
        if (run.size() % records == 0) {
            writePage();
        }
    }

    void end(List<int[]> run) throws Refused {
        if (run.size() % records != 0) {
            writePage();
        }
    }

    void writePage() throws Refused {
        if (free() < 1) {
            throw new Refused(-2);
        }
        workPages++;
        writes++;
        peak = Math.max(peak, pages - free());
    }

    void readRunPage() {
        reads++;
        workPages--;
    }

    List<int[]> arrange(List<int[]> file, int budget, int mode, boolean once) throws Refused {
        List<List<int[]>> runs = makeRuns(file, roomOf(budget), mode, once);
        for (List<int[]> run : runs) {
            lengths.add(run.size());
        }
        while (wantsPass(runs.size())) {
            runs = pass(runs, widthOf(budget), mode, once);
            passes++;
        }
        return runs.isEmpty() ? new ArrayList<>() : runs.get(0);
    }

    boolean wantsPass(int runs) {
        return runs > 1;
    }

    List<List<int[]>> pass(List<List<int[]>> runs, int width, int mode, boolean once) throws Refused {
        List<List<int[]>> merged = new ArrayList<>();
        for (int first = 0; first < runs.size(); first += width) {
            List<List<int[]>> group = runs.subList(first, Math.min(runs.size(), first + width));
            merged.add(group.size() == 1 ? alone(group.get(0)) : merge(group, mode, once));
        }
        return merged;
    }

    List<int[]> alone(List<int[]> run) throws Refused {
        return run;
    }

    boolean hasMore(List<int[]> file, int taken) {
        return taken < file.size();
    }

    int[] take(List<int[]> file, int i) {
        if (i % records == 0) {
            reads++;
        }
        return file.get(i);
    }

    /** The run of a record that is taken ahead of any that is written. */
    int runOfFirst(List<Held> memory, int[] record, int mode) {
        return 0;
    }

    boolean isForNextRun(int mode, int[] next, int[] written) {
        return compare(mode, next, written) < 0;
    }

    /** What is held stands by when it came, so the first of alike ones is the earliest. */
    Held firstHeld(List<Held> memory, int run, int mode) {
        Held first = null;
        for (Held held : memory) {
            if (held.run == run && (first == null || compare(mode, held.record, first.record) < 0)) {
                first = held;
            }
        }
        return first;
    }

    boolean isSame(int[] one, int[] other) {
        return one[0] == other[0] && one[1] == other[1];
    }

    boolean isRepeat(List<int[]> run, int[] record) {
        return !run.isEmpty() && isSame(run.get(run.size() - 1), record);
    }

    boolean isGoneInRuns(List<int[]> run, int[] record) {
        return isRepeat(run, record);
    }

    boolean isGoneInMerging(List<int[]> run, int[] record) {
        return isRepeat(run, record);
    }

    boolean isTakenForWhatIsGone() {
        return true;
    }

    List<List<int[]>> makeRuns(List<int[]> file, int room, int mode, boolean once) throws Refused {
        List<List<int[]>> runs = new ArrayList<>();
        List<Held> memory = new ArrayList<>();
        int taken = 0;
        while (hasMore(file, taken) && memory.size() < room) {
            int[] record = take(file, taken++);
            memory.add(new Held(record, runOfFirst(memory, record, mode)));
        }
        if (memory.isEmpty()) {
            return runs;
        }
        runs.add(new ArrayList<>());
        while (!memory.isEmpty()) {
            int at = runs.size() - 1;
            List<int[]> run = runs.get(at);
            Held first = firstHeld(memory, at, mode);
            if (first == null) {
                end(run);
                runs.add(new ArrayList<>());
                continue;
            }
            memory.remove(first);
            boolean gone = once && isGoneInRuns(run, first.record);
            if (!gone) {
                write(run, first.record);
            }
            if (hasMore(file, taken) && (!gone || isTakenForWhatIsGone())) {
                int[] next = take(file, taken++);
                boolean waits = isForNextRun(mode, next, run.get(run.size() - 1));
                memory.add(new Held(next, waits ? at + 1 : at));
            }
        }
        end(runs.get(runs.size() - 1));
        return runs;
    }

    /** Which run has the first record, of those that have one left; NONE if none has. */
    int firstRun(List<List<int[]>> group, int[] at, int mode) {
        int first = NONE;
        for (int i = 0; i < at.length; i++) {
            boolean left = at[i] < group.get(i).size();
            if (left && (first == NONE
                    || compare(mode, group.get(i).get(at[i]), group.get(first).get(at[first])) < 0)) {
                first = i;
            }
        }
        return first;
    }

    boolean hasNextPage(List<int[]> run, int taken) {
        return taken % records == 0 && taken < run.size();
    }

    List<int[]> merge(List<List<int[]>> group, int mode, boolean once) throws Refused {
        int[] at = new int[group.size()];
        for (int i = 0; i < at.length; i++) {
            readRunPage();
        }
        List<int[]> merged = new ArrayList<>();
        for (int first = firstRun(group, at, mode); first != NONE; first = firstRun(group, at, mode)) {
            List<int[]> run = group.get(first);
            int[] record = run.get(at[first]++);
            if (hasNextPage(run, at[first])) {
                readRunPage();
            }
            if (!once || !isGoneInMerging(merged, record)) {
                write(merged, record);
            }
        }
        end(merged);
        return merged;
    }

    List<int[]> joined(List<int[]> a, List<int[]> b, int budget) throws Refused {
        List<int[]> left = arrange(a, budget, 0, false);
        List<int[]> right = arrange(b, budget, 0, false);
        askTooLarge(left, right, roomOf(budget));
        readSorted(left, right);
        return written(pairs(left, right));
    }

    void askTooLarge(List<int[]> left, List<int[]> right, int room) throws Refused {
        for (int[] one : right) {
            if (countOf(right, one[0]) > room) {
                throw new Refused(-3);
            }
        }
    }

    static int countOf(List<int[]> list, int key) {
        int count = 0;
        for (int[] record : list) {
            count += record[0] == key ? 1 : 0;
        }
        return count;
    }

    void readSorted(List<int[]> left, List<int[]> right) {
        reads += pagesOf(left.size()) + pagesOf(right.size());
        workPages = 0;
    }

    List<int[]> pairs(List<int[]> left, List<int[]> right) {
        List<int[]> pairs = new ArrayList<>();
        for (int[] one : left) {
            for (int[] other : right) {
                if (one[0] == other[0]) {
                    pairs.add(new int[] {one[1], other[1]});
                }
            }
        }
        return pairs;
    }

    List<int[]> written(List<int[]> whole) throws Refused {
        List<int[]> file = new ArrayList<>();
        for (int[] record : whole) {
            write(file, record);
        }
        end(file);
        return Collections.unmodifiableList(file);
    }
}
