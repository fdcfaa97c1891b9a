import java.util.ArrayList;
import java.util.Comparator;
import java.util.List;

/**
 * The document written a second time, as plainly as can be, to hold the class against: files are lists,
 * pages are only counted, and the first record is found by looking at all.
 */
final class Model {
    private static final int NONE = -1;

    /** The disk is FULL. */
    private static final class Full extends Exception {
        private static final long serialVersionUID = 1L;
    }

    /** A record in memory, and the run that it is for. */
    private static final class Held {
        final int[] record;
        final int run;

        Held(int[] record, int run) {
            this.record = record;
            this.run = run;
        }
    }

    final int pages;
    final int records;
    private final List<List<int[]>> files = new ArrayList<>();
    private int workPages;

    private int reads;
    private int writes;
    private int passes;
    private int peak;
    private List<Integer> lengths = new ArrayList<>();
    private int[] told = new int[6];
    private List<Integer> toldLengths = new ArrayList<>();

    Model(int pages, int records) {
        this.pages = pages < 1 ? 1 : pages > 512 ? 512 : pages;
        this.records = records < 1 ? 1 : records > 16 ? 16 : records;
        for (int file = 0; file < 6; file++) {
            files.add(new ArrayList<>());
        }
    }

    int append(int file, int key, int tag) {
        if (bad(file)) {
            return NONE;
        }
        List<int[]> list = files.get(file);
        if (list.size() % records == 0 && free() == 0) {
            return NONE;
        }
        list.add(new int[] {key, tag});
        return list.size();
    }

    int drop(int file) {
        if (bad(file)) {
            return NONE;
        }
        int gone = pagesOf(files.get(file).size());
        files.get(file).clear();
        return gone;
    }

    int sort(int from, int to, int budget, int mode) {
        return mode < 0 || mode > 2 ? NONE : sorted(from, to, budget, mode, false);
    }

    int distinct(int from, int to, int budget) {
        return sorted(from, to, budget, 1, true);
    }

    int join(int a, int b, int to, int budget) {
        if (bad(a) || bad(b) || bad(to) || budget < 3 || budget > 16) {
            return NONE;
        }
        begin();
        try {
            List<int[]> left = arrange(files.get(a), budget, 0, false);
            List<int[]> right = arrange(files.get(b), budget, 0, false);
            for (int[] one : right) {
                long alike = right.stream().filter(other -> other[0] == one[0]).count();
                if (alike > (long) (budget - 2) * records) {
                    return failed(-3);
                }
            }
            reads += workPages;
            workPages = 0;
            List<int[]> pairs = new ArrayList<>();
            for (int[] one : left) {
                for (int[] other : right) {
                    if (one[0] == other[0]) {
                        write(pairs, new int[] {one[1], other[1]});
                    }
                }
            }
            end(pairs);
            return done(to, pairs);
        } catch (Full full) {
            return failed(-2);
        }
    }

    int size(int file) {
        return bad(file) ? NONE : files.get(file).size();
    }

    int key(int file, int i) {
        return bad(file) || i < 0 || i >= size(file) ? 0 : files.get(file).get(i)[0];
    }

    int tag(int file, int i) {
        return bad(file) || i < 0 || i >= size(file) ? 0 : files.get(file).get(i)[1];
    }

    int told(int what) {
        return what < 0 || what > 8 ? NONE
            : what < 6 ? told[what]
            : what == 6 ? free()
            : what == 7 ? pages : records;
    }

    int run(int i) {
        return i < 0 || i >= toldLengths.size() ? NONE : toldLengths.get(i);
    }

    List<int[]> file(int file) {
        return files.get(file);
    }

    private static boolean bad(int file) {
        return file < 0 || file > 5;
    }

    private int pagesOf(int count) {
        int full = count / records;
        return count % records == 0 ? full : full + 1;
    }

    private int free() {
        int used = workPages;
        for (List<int[]> file : files) {
            used += pagesOf(file.size());
        }
        return pages - used;
    }

    private void begin() {
        reads = 0;
        writes = 0;
        passes = 0;
        workPages = 0;
        peak = pages - free();
        lengths = new ArrayList<>();
    }

    private int failed(int answer) {
        workPages = 0;
        return answer;
    }

    private int done(int to, List<int[]> result) {
        workPages = 0;
        files.set(to, new ArrayList<>(result));
        told = new int[] {reads + writes, reads, writes, lengths.size(), passes, peak};
        toldLengths = lengths;
        return result.size();
    }

    private int sorted(int from, int to, int budget, int mode, boolean once) {
        if (bad(from) || bad(to) || budget < 3 || budget > 16) {
            return NONE;
        }
        begin();
        try {
            return done(to, arrange(files.get(from), budget, mode, once));
        } catch (Full full) {
            return failed(-2);
        }
    }

    private static Comparator<int[]> order(int mode) {
        Comparator<int[]> keys = Comparator.comparing(record -> record[0]);
        return mode == 0 ? keys : mode == 2 ? keys.reversed() : keys.thenComparing(record -> record[1]);
    }

    private void write(List<int[]> run, int[] record) throws Full {
        run.add(record);
        if (run.size() % records == 0) {
            writePage();
        }
    }

    private void end(List<int[]> run) throws Full {
        if (run.size() % records != 0) {
            writePage();
        }
    }

    private void writePage() throws Full {
        if (free() == 0) {
            throw new Full();
        }
        workPages++;
        writes++;
        peak = Math.max(peak, pages - free());
    }

    private static boolean isRepeat(List<int[]> run, int[] record) {
        if (run.isEmpty()) {
            return false;
        }
        int[] last = run.get(run.size() - 1);
        return last[0] == record[0] && last[1] == record[1];
    }

    private List<int[]> arrange(List<int[]> file, int budget, int mode, boolean once) throws Full {
        List<List<int[]>> runs = makeRuns(file, (budget - 2) * records, order(mode), once);
        for (List<int[]> run : runs) {
            lengths.add(run.size());
        }
        while (runs.size() > 1) {
            List<List<int[]>> merged = new ArrayList<>();
            for (int first = 0; first < runs.size(); first += budget - 1) {
                List<List<int[]>> group = runs.subList(first, Math.min(runs.size(), first + budget - 1));
                merged.add(group.size() == 1 ? group.get(0) : merge(group, order(mode), once));
            }
            runs = merged;
            passes++;
        }
        return runs.isEmpty() ? new ArrayList<>() : runs.get(0);
    }

    private int[] take(List<int[]> file, int i) {
        if (i % records == 0) {
            reads++;
        }
        return file.get(i);
    }

    /** What is held stands by when it came, so the first of alike ones is the earliest. */
    private List<List<int[]>> makeRuns(List<int[]> file, int room, Comparator<int[]> order, boolean once)
            throws Full {
        List<List<int[]>> runs = new ArrayList<>();
        List<Held> memory = new ArrayList<>();
        int taken = 0;
        while (taken < file.size() && memory.size() < room) {
            memory.add(new Held(take(file, taken++), 0));
        }
        if (memory.isEmpty()) {
            return runs;
        }
        runs.add(new ArrayList<>());
        while (!memory.isEmpty()) {
            int at = runs.size() - 1;
            Held first = null;
            for (Held held : memory) {
                if (held.run == at && (first == null || order.compare(held.record, first.record) < 0)) {
                    first = held;
                }
            }
            if (first == null) {
                end(runs.get(at));
                runs.add(new ArrayList<>());
                continue;
            }
            memory.remove(first);
            List<int[]> run = runs.get(at);
            if (!once || !isRepeat(run, first.record)) {
                write(run, first.record);
            }
            if (taken < file.size()) {
                int[] next = take(file, taken++);
                boolean ahead = order.compare(next, run.get(run.size() - 1)) < 0;
                memory.add(new Held(next, ahead ? at + 1 : at));
            }
        }
        end(runs.get(runs.size() - 1));
        return runs;
    }

    private void readPage() {
        reads++;
        workPages--;
    }

    private List<int[]> merge(List<List<int[]>> group, Comparator<int[]> order, boolean once) throws Full {
        int[] at = new int[group.size()];
        for (int i = 0; i < at.length; i++) {
            readPage();
        }
        List<int[]> merged = new ArrayList<>();
        while (true) {
            int best = NONE;
            for (int i = 0; i < at.length; i++) {
                boolean left = at[i] < group.get(i).size();
                if (left && (best == NONE || order.compare(group.get(i).get(at[i]), group.get(best).get(at[best])) < 0)) {
                    best = i;
                }
            }
            if (best == NONE) {
                end(merged);
                return merged;
            }
            int[] record = group.get(best).get(at[best]++);
            if (at[best] % records == 0 && at[best] < group.get(best).size()) {
                readPage();
            }
            if (!once || !isRepeat(merged, record)) {
                write(merged, record);
            }
        }
    }
}
