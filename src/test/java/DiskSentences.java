import java.lang.reflect.InvocationHandler;
import java.lang.reflect.Proxy;
import java.util.ArrayList;
import java.util.List;

/** "What it is", the terms of THE DISK, and promises 1, 2, 3, 7, 8 and 9. */
final class DiskSentences {
    private static final int NONE = -1;
    private static final int LOW = Integer.MIN_VALUE;
    private static final int HIGH = Integer.MAX_VALUE;
    private static final int[] NO_FILES = {-1, 6, 7, LOW, HIGH};

    static List<Sentence> all() {
        List<Sentence> all = new ArrayList<>();
        all.addAll(records());
        all.addAll(files());
        all.addAll(newObject());
        all.addAll(append());
        all.addAll(drop());
        all.addAll(reading());
        return all;
    }

    private static List<Sentence> records() {
        return List.of(
            Sentence.of("What it is",
                "An object is used for at most 512 calls after it has been made; what later calls answer is free.",
                DiskSentences::callsUpTo512,
                Sentence.fault("the 512th call is refused", (p, r) -> limited(new Model(p, r), 511)),
                Sentence.fault("calls are refused from the 257th on", (p, r) -> limited(new Model(p, r), 256))),
            Sentence.of("Terms",
                "==== THE DISK: PAGES, each with room for RECORDS records of a key and a tag",
                DiskSentences::roomOfAPage,
                Sentence.fault("a record more has room", (p, r) -> new Model(p, r) {
                    @Override
                    int pagesOf(int count) {
                        return (count + records) / (records + 1);
                    }
                }),
                Sentence.fault("a full page takes one more", (p, r) -> new Model(p, r) {
                    @Override
                    int pagesOf(int count) {
                        return count == 0 ? 0 : count / records + 1;
                    }
                })),
            Sentence.of("Terms", "(32 bits each, with a sign).", DiskSentences::allOf32Bits,
                Sentence.fault("keys of 16 bits", (p, r) -> new Model(p, r) {
                    @Override
                    public int append(int file, int key, int tag) {
                        return super.append(file, (short) key, tag);
                    }
                }),
                Sentence.fault("tags of 31 bits", (p, r) -> new Model(p, r) {
                    @Override
                    public int append(int file, int key, int tag) {
                        return super.append(file, key, tag & HIGH);
                    }
                }),
                Sentence.fault("joined as of 16 bits", (p, r) -> new Model(p, r) {
                    @Override
                    List<int[]> pairs(List<int[]> left, List<int[]> right) {
                        return super.pairs(shortened(left), shortened(right));
                    }
                })),
            Sentence.of("Terms", "(32 bits each, with a sign).", DiskSentences::orderOfSigns,
                Sentence.fault("without a sign", (p, r) -> new Model(p, r) {
                    @Override
                    int compare(int mode, int[] one, int[] other) {
                        return super.compare(mode, flipped(one), flipped(other));
                    }
                }),
                Sentence.fault("by a difference that wraps around", (p, r) -> new Model(p, r) {
                    @Override
                    int compare(int mode, int[] one, int[] other) {
                        int keys = one[0] - other[0];
                        return mode == 2 ? -keys : keys == 0 && mode == 1 ? one[1] - other[1] : keys;
                    }
                }),
                Sentence.fault("tags by a difference that wraps around", (p, r) -> new Model(p, r) {
                    @Override
                    int compare(int mode, int[] one, int[] other) {
                        boolean byTags = mode == 1 && one[0] == other[0];
                        return byTags ? one[1] - other[1] : super.compare(mode, one, other);
                    }
                })));
    }

    private static List<Sentence> files() {
        return List.of(
            Sentence.of("Terms", "FILES 0 .. 5:", DiskSentences::sixFiles,
                Sentence.fault("no file 0", (p, r) -> new Model(p, r) {
                    @Override
                    boolean isFile(int file) {
                        return file > 0 && file <= 5;
                    }
                }),
                Sentence.fault("no file 5", (p, r) -> new Model(p, r) {
                    @Override
                    boolean isFile(int file) {
                        return file >= 0 && file < 5;
                    }
                })),
            Sentence.of("Terms", "FILES 0 .. 5:", DiskSentences::noSeventhFile,
                Sentence.fault("a file 6", (p, r) -> new Model(p, r) {
                    @Override
                    boolean isFile(int file) {
                        return file >= 0 && file <= 6;
                    }
                }),
                Sentence.fault("a file -1", (p, r) -> new Model(p, r) {
                    @Override
                    boolean isFile(int file) {
                        return file >= -1 && file <= 5;
                    }
                })),
            Sentence.of("Terms", "records 0, 1, .., in pages that are full but the last one;",
                DiskSentences::fullButTheLast,
                Sentence.fault("a page more behind a full one", (p, r) -> new Model(p, r) {
                    @Override
                    int pagesOf(int count) {
                        return count == 0 ? 0 : count / records + 1;
                    }
                }),
                Sentence.fault("the last page is not filled behind a sorting", (p, r) -> new Model(p, r) {
                    private int gap;

                    @Override
                    public int append(int file, int key, int tag) {
                        gap += told(2) > 0 && size(file) % records != 0 ? 1 : 0;
                        return super.append(file, key, tag);
                    }

                    @Override
                    int free() {
                        return super.free() - gap;
                    }
                }),
                Sentence.fault("records from 1 on", (p, r) -> new Model(p, r) {
                    @Override
                    public int key(int file, int i) {
                        return super.key(file, i - 1);
                    }
                })),
            Sentence.of("Terms", "empty at first.", DiskSentences::emptyAtFirst,
                Sentence.fault("file 5 has a record", (p, r) -> {
                    Model model = new Model(p, r);
                    model.append(5, 0, 0);
                    return model;
                })),
            Sentence.of("Terms", "A page is FREE or of one file (or of one run).", DiskSentences::noPageIsLost,
                Sentence.fault("a refused call keeps its pages", (p, r) -> new Model(p, r) {
                    private int lost;

                    @Override
                    int failed(int to, int answer) {
                        lost += workPages;
                        return super.failed(to, answer);
                    }

                    @Override
                    int free() {
                        return super.free() - lost;
                    }
                }),
                Sentence.fault("the old pages are of nobody", (p, r) -> new Model(p, r) {
                    private int lost;

                    @Override
                    int done(int to, List<int[]> result) {
                        lost += pagesOf(size(to));
                        return super.done(to, result);
                    }

                    @Override
                    int free() {
                        return super.free() - lost;
                    }
                }),
                Sentence.fault("a page is FREE and of a file", (p, r) -> new Model(p, r) {
                    @Override
                    int free() {
                        return super.free() + (told(2) > 0 ? 1 : 0);
                    }
                })),
            Sentence.of("Terms", "The constants: `NONE = -1`: None.", DiskSentences::noneIsMinusOne,
                Sentence.fault("NONE is 0", (p, r) -> new Model(p, r) {
                    @Override
                    public int none() {
                        return 0;
                    }
                }),
                Sentence.fault("a refused call answers 0", (p, r) -> new Model(p, r) {
                    @Override
                    public int size(int file) {
                        return Math.max(0, super.size(file));
                    }
                })));
    }

    private static List<Sentence> newObject() {
        return List.of(
            Sentence.of("Promise 1", "PAGES is taken into 1 .. 512,", DiskSentences::pagesOfTheDisk,
                Sentence.fault("2 at the least", (p, r) -> new Model(Math.max(2, p), r)),
                Sentence.fault("511 at the most", (p, r) -> new Model(Math.min(511, p), r)),
                Sentence.fault("0 is the most", (p, r) -> new Model(p == 0 ? 512 : p, r)),
                Sentence.fault("below 0 is the most", (p, r) -> new Model(p < 0 ? 512 : p, r)),
                Sentence.fault("513 is 1", (p, r) -> new Model(p > 512 ? p - 512 : p, r))),
            Sentence.of("Promise 1", "PAGES is taken into 1 .. 512,", DiskSentences::all512Pages,
                Sentence.fault("one of 512 can't be used", (p, r) -> new Model(p, r) {
                    @Override
                    int free() {
                        return super.free() - 1;
                    }
                }),
                Sentence.fault("600 are 600", (p, r) -> new Model(p, r) {
                    @Override
                    int free() {
                        return super.free() + 88;
                    }
                })),
            Sentence.of("Promise 1", "RECORDS into 1 .. 16;", DiskSentences::recordsOfAPage,
                Sentence.fault("2 at the least", (p, r) -> new Model(p, Math.max(2, r))),
                Sentence.fault("15 at the most", (p, r) -> new Model(p, Math.min(15, r))),
                Sentence.fault("0 is the most", (p, r) -> new Model(p, r == 0 ? 16 : r)),
                Sentence.fault("below 0 is the most", (p, r) -> new Model(p, r < 0 ? 16 : r)),
                Sentence.fault("17 is 1", (p, r) -> new Model(p, r > 16 ? r - 16 : r))),
            Sentence.of("Promise 1", "RECORDS into 1 .. 16;", DiskSentences::all8192Records,
                Sentence.fault("one of 8192 has no room", (p, r) -> new Model(p, r) {
                    @Override
                    public int append(int file, int key, int tag) {
                        return size(file) >= 8191 ? NONE : super.append(file, key, tag);
                    }
                }),
                Sentence.fault("one more has room", (p, r) -> new Model(p, r) {
                    @Override
                    public int append(int file, int key, int tag) {
                        return size(file) == 8192 ? 8193 : super.append(file, key, tag);
                    }
                })),
            Sentence.of("Promise 1", "RECORDS into 1 .. 16;", DiskSentences::all8192AreSorted,
                Sentence.fault("a page is kept back", (p, r) -> new Model(p, r) {
                    @Override
                    void writePage() throws Refused {
                        if (free() < 2) {
                            throw new Refused(-2);
                        }
                        super.writePage();
                    }
                }),
                Sentence.fault("no more than 63 runs are merged", (p, r) -> new Model(p, r) {
                    @Override
                    List<List<int[]>> pass(List<List<int[]>> runs, int width, int mode, boolean once)
                            throws Refused {
                        return super.pass(runs.subList(0, Math.min(63, runs.size())), width, mode, once);
                    }
                })),
            Sentence.of("Promise 1", "all are FREE.", DiskSentences::allAreFree,
                Sentence.fault("the first is kept back", (p, r) -> new Model(p, r) {
                    @Override
                    int free() {
                        return super.free() - 1;
                    }
                })));
    }

    private static List<Sentence> append() {
        return List.of(
            Sentence.of("Promise 2", "A record comes behind a file: how many it has.", DiskSentences::appendCounts,
                Sentence.fault("how many it had", (p, r) -> new Model(p, r) {
                    @Override
                    public int append(int file, int key, int tag) {
                        int count = super.append(file, key, tag);
                        return count == NONE ? NONE : count - 1;
                    }
                }),
                Sentence.fault("ahead of the file", (p, r) -> new Model(p, r) {
                    @Override
                    public int append(int file, int key, int tag) {
                        int count = super.append(file, key, tag);
                        list(file).add(0, list(file).remove(count - 1));
                        return count;
                    }
                })),
            Sentence.of("Promise 2", "NONE, changing nothing: no such file, or the disk is FULL.",
                DiskSentences::appendOnFullDisk,
                Sentence.fault("refused where a page has room", (p, r) -> new Model(p, r) {
                    @Override
                    public int append(int file, int key, int tag) {
                        return free() < 1 ? NONE : super.append(file, key, tag);
                    }
                }),
                Sentence.fault("the last page can't be taken", (p, r) -> new Model(p, r) {
                    @Override
                    public int append(int file, int key, int tag) {
                        boolean needs = size(file) % records == 0;
                        return needs && free() < 2 ? NONE : super.append(file, key, tag);
                    }
                }),
                Sentence.fault("the record comes all the same", (p, r) -> new Model(p, r) {
                    @Override
                    public int append(int file, int key, int tag) {
                        int count = super.append(file, key, tag);
                        if (count == NONE) {
                            list(file).add(new int[] {key, tag});
                        }
                        return count;
                    }
                }),
                Sentence.fault("FULL is -2", (p, r) -> new Model(p, r) {
                    @Override
                    public int append(int file, int key, int tag) {
                        return free() < 1 && size(file) % records == 0 ? -2 : super.append(file, key, tag);
                    }
                })),
            Sentence.of("Promise 2", "NONE, changing nothing: no such file, or the disk is FULL.",
                DiskSentences::appendToNoFile,
                Sentence.fault("it comes to the nearest file", (p, r) -> new Model(p, r) {
                    @Override
                    public int append(int file, int key, int tag) {
                        super.append(Math.max(0, Math.min(5, file)), key, tag);
                        return isFile(file) ? size(file) : NONE;
                    }
                })),
            Sentence.of("Promise 2", "(No TRANSFERS.)", DiskSentences::appendIsNoTransfer,
                Sentence.fault("a page is written", (p, r) -> new Model(p, r) {
                    @Override
                    public int append(int file, int key, int tag) {
                        told[0]++;
                        told[2]++;
                        return super.append(file, key, tag);
                    }
                })));
    }

    private static List<Sentence> drop() {
        return List.of(
            Sentence.of("Promise 3", "A file is empty again: how many pages are FREE by that.",
                DiskSentences::dropCountsPages,
                Sentence.fault("how many records", (p, r) -> new Model(p, r) {
                    @Override
                    public int drop(int file) {
                        int count = size(file);
                        super.drop(file);
                        return count;
                    }
                }),
                Sentence.fault("only full pages", (p, r) -> new Model(p, r) {
                    @Override
                    public int drop(int file) {
                        int count = size(file);
                        super.drop(file);
                        return count / records;
                    }
                }),
                Sentence.fault("how many are FREE then", (p, r) -> new Model(p, r) {
                    @Override
                    public int drop(int file) {
                        super.drop(file);
                        return free();
                    }
                })),
            Sentence.of("Promise 3", "A file is empty again: how many pages are FREE by that.",
                DiskSentences::emptyAgain,
                Sentence.fault("it is not empty", (p, r) -> new Model(p, r) {
                    @Override
                    public int drop(int file) {
                        return isFile(file) ? pagesOf(size(file)) : NONE;
                    }
                }),
                Sentence.fault("NONE for an empty file", (p, r) -> new Model(p, r) {
                    @Override
                    public int drop(int file) {
                        return size(file) < 1 ? NONE : super.drop(file);
                    }
                })),
            Sentence.of("Promise 3", "NONE: no such file.", DiskSentences::dropNoFile,
                Sentence.fault("0 pages", (p, r) -> new Model(p, r) {
                    @Override
                    public int drop(int file) {
                        return Math.max(0, super.drop(file));
                    }
                }),
                Sentence.fault("the nearest file is dropped", (p, r) -> new Model(p, r) {
                    @Override
                    public int drop(int file) {
                        int pages = super.drop(Math.max(0, Math.min(5, file)));
                        return isFile(file) ? pages : NONE;
                    }
                })));
    }

    private static List<Sentence> reading() {
        return List.of(
            Sentence.of("Promise 7", "How many records a file has.", DiskSentences::sizeCounts,
                Sentence.fault("how many pages", (p, r) -> new Model(p, r) {
                    @Override
                    public int size(int file) {
                        return pagesOf(super.size(file));
                    }
                }),
                Sentence.fault("NONE for an empty file", (p, r) -> new Model(p, r) {
                    @Override
                    public int size(int file) {
                        return super.size(file) == 0 ? NONE : super.size(file);
                    }
                })),
            Sentence.of("Promise 7", "NONE: no such file.", DiskSentences::sizeOfNoFile,
                Sentence.fault("0 records", (p, r) -> new Model(p, r) {
                    @Override
                    public int size(int file) {
                        return Math.max(0, super.size(file));
                    }
                })),
            Sentence.of("Promise 8", "Record i of a file: its key.", DiskSentences::keysOfRecords,
                Sentence.fault("its tag", (p, r) -> new Model(p, r) {
                    @Override
                    public int key(int file, int i) {
                        return super.tag(file, i);
                    }
                }),
                Sentence.fault("not of the last record", (p, r) -> new Model(p, r) {
                    @Override
                    public int key(int file, int i) {
                        return i == size(file) - 1 ? 0 : super.key(file, i);
                    }
                }),
                Sentence.fault("within its page", (p, r) -> new Model(p, r) {
                    @Override
                    public int key(int file, int i) {
                        return super.key(file, i % records);
                    }
                })),
            Sentence.of("Promise 8", "0 if there is none such.", c -> noSuchRecord(c, true),
                Sentence.fault("NONE", (p, r) -> new Model(p, r) {
                    @Override
                    public int key(int file, int i) {
                        return hasRecord(file, i) ? super.key(file, i) : NONE;
                    }
                }),
                Sentence.fault("the first for -1", (p, r) -> new Model(p, r) {
                    @Override
                    public int key(int file, int i) {
                        return super.key(file, i == -1 ? 0 : i);
                    }
                }),
                Sentence.fault("what stood in the page", (p, r) -> new Model(p, r) {
                    @Override
                    public int key(int file, int i) {
                        return i >= 0 && i == size(file) && i % records != 0 ? 77 : super.key(file, i);
                    }
                }),
                Sentence.fault("the last for all behind", (p, r) -> new Model(p, r) {
                    @Override
                    public int key(int file, int i) {
                        return super.key(file, Math.min(i, size(file) - 1));
                    }
                })),
            Sentence.of("Promise 9", "Its tag.", DiskSentences::tagsOfRecords,
                Sentence.fault("its key", (p, r) -> new Model(p, r) {
                    @Override
                    public int tag(int file, int i) {
                        return super.key(file, i);
                    }
                }),
                Sentence.fault("not of the last record", (p, r) -> new Model(p, r) {
                    @Override
                    public int tag(int file, int i) {
                        return i == size(file) - 1 ? 0 : super.tag(file, i);
                    }
                })),
            Sentence.of("Promise 9", "0 if there is none such.", c -> noSuchRecord(c, false),
                Sentence.fault("NONE", (p, r) -> new Model(p, r) {
                    @Override
                    public int tag(int file, int i) {
                        return hasRecord(file, i) ? super.tag(file, i) : NONE;
                    }
                }),
                Sentence.fault("the first for -1", (p, r) -> new Model(p, r) {
                    @Override
                    public int tag(int file, int i) {
                        return super.tag(file, i == -1 ? 0 : i);
                    }
                }),
                Sentence.fault("what stood in the page", (p, r) -> new Model(p, r) {
                    @Override
                    public int tag(int file, int i) {
                        return i >= 0 && i == size(file) && i % records != 0 ? 77 : super.tag(file, i);
                    }
                }),
                Sentence.fault("the last for all behind", (p, r) -> new Model(p, r) {
                    @Override
                    public int tag(int file, int i) {
                        return super.tag(file, Math.min(i, size(file) - 1));
                    }
                })));
    }

    /** Answers NONE to all calls behind the first ones. */
    private static Face limited(Face model, int calls) {
        int[] made = new int[1];
        InvocationHandler handler = (proxy, method, args) -> ++made[0] > calls ? (Object) NONE : method.invoke(model, args);
        return (Face) Proxy.newProxyInstance(Face.class.getClassLoader(), new Class<?>[] {Face.class}, handler);
    }

    private static int[] flipped(int[] record) {
        return new int[] {record[0] ^ LOW, record[1] ^ LOW};
    }

    private static List<int[]> shortened(List<int[]> records) {
        return records.stream().map(record -> new int[] {(short) record[0], record[1]}).toList();
    }

    private static void callsUpTo512(Check c) {
        Face x = c.make(512, 16);
        for (int call = 1; call <= 400; call++) {
            c.due("call " + call, x.append(0, -call, call), call);
        }
        for (int call = 401; call <= 510; call++) {
            c.due("call " + call, x.sort(0, 1, 3 + call % 14, call % 3), 400);
        }
        c.due("call 511", x.distinct(0, 1, 3), 400);
        c.due("call 512", x.key(1, 0), -400);
        Face y = c.make(600, 20);
        for (int call = 1; call <= 511; call++) {
            c.due("call " + call, y.append(5, call / 2, call), call);
        }
        // the key 0 is there once, each of 1 .. 255 twice
        c.due("call 512", y.join(5, 5, 5, 16), 1 + 255 * 4);
    }

    private static void roomOfAPage(Check c) {
        for (int room = 1; room <= 16; room++) {
            Face x = c.make(2, room);
            for (int i = 1; i <= 2 * room; i++) {
                c.due("append " + i + " of " + room, x.append(3, i, -i), i);
                c.due("FREE behind " + i + " of " + room, x.told(6), i <= room ? 1 : 0);
            }
            c.due("one more of " + room, x.append(3, 0, 0), NONE);
            c.due("size of " + room, x.size(3), 2 * room);
        }
    }

    private static void allOf32Bits(Check c) {
        Face x = c.make(60, 2);
        int[] signs = {HIGH, LOW, LOW, HIGH, 65536, 0, 0, 65536, -1, 1, LOW + 1, HIGH - 1};
        Check.fill(x, 0, signs);
        c.file("appended", x, 0, signs);
        c.due("distinct", x.distinct(0, 1, 3), 6);
        c.file("distinct", x, 1, LOW, HIGH, LOW + 1, HIGH - 1, -1, 1, 0, 65536, 65536, 0, HIGH, LOW);
        // 65536 and LOW are 0, and HIGH is -1, in 16 bits
        Check.fill(x, 2, HIGH, HIGH, LOW, LOW, 131072, 5, 65535, 6);
        c.due("join", x.join(0, 2, 3, 4), 2);
        c.file("join", x, 3, HIGH, LOW, LOW, HIGH);
    }

    private static void orderOfSigns(Check c) {
        Face x = c.make(90, 1);
        Check.fill(x, 0, 1, 3, HIGH, 1, -1, 4, LOW, 2, 0, 5);
        for (int budget = 3; budget <= 7; budget++) {
            x.sort(0, 1, budget, 0);
            c.file("mode 0, " + budget, x, 1, LOW, 2, -1, 4, 0, 5, 1, 3, HIGH, 1);
            x.sort(0, 1, budget, 2);
            c.file("mode 2, " + budget, x, 1, HIGH, 1, 1, 3, 0, 5, -1, 4, LOW, 2);
        }
        Check.fill(x, 2, 7, 1, 7, HIGH, 7, -1, 7, LOW, LOW, 0, HIGH, 0);
        for (int budget = 3; budget <= 7; budget++) {
            x.sort(2, 1, budget, 1);
            c.file("mode 1, " + budget, x, 1, LOW, 0, 7, LOW, 7, -1, 7, 1, 7, HIGH, HIGH, 0);
        }
    }

    private static void sixFiles(Check c) {
        for (int file = 0; file <= 5; file++) {
            Face x = c.make(9, 2);
            String when = "file " + file;
            c.due(when + ": append", x.append(file, 8, 9), 1);
            c.file(when, x, file, 8, 9);
            int other = (file + 1) % 6;
            c.due(when + ": sort from", x.sort(file, other, 3, 0), 1);
            c.due(when + ": sort to", x.sort(other, file, 3, 0), 1);
            c.due(when + ": distinct from", x.distinct(file, other, 3), 1);
            c.due(when + ": distinct to", x.distinct(other, file, 3), 1);
            c.due(when + ": join a", x.join(file, other, other, 3), 1);
            c.file(when + ": join a", x, other, 9, 9);
            x.drop(other);
            x.append(other, 8, 7);
            c.due(when + ": join b", x.join(other, file, file, 3), 1);
            c.file(when + ": join to", x, file, 7, 9);
            c.due(when + ": drop", x.drop(file), 1);
        }
    }

    private static void noSeventhFile(Check c) {
        Face x = c.make(30, 2);
        Check.fill(x, 0, 3, 1, 2, 2, 1, 3);
        Check.fill(x, 5, 3, 1);
        for (int file : NO_FILES) {
            String when = "file " + file;
            c.due(when + ": append", x.append(file, 8, 9), NONE);
            c.due(when + ": drop", x.drop(file), NONE);
            c.due(when + ": sort from", x.sort(file, 0, 3, 0), NONE);
            c.due(when + ": sort to", x.sort(0, file, 3, 0), NONE);
            c.due(when + ": distinct from", x.distinct(file, 0, 3), NONE);
            c.due(when + ": distinct to", x.distinct(0, file, 3), NONE);
            c.due(when + ": join a", x.join(file, 0, 0, 3), NONE);
            c.due(when + ": join b", x.join(0, file, 0, 3), NONE);
            c.due(when + ": join to", x.join(0, 0, file, 3), NONE);
            c.due(when + ": size", x.size(file), NONE);
            c.due(when + ": key", x.key(file, 0), 0);
            c.due(when + ": tag", x.tag(file, 0), 0);
        }
        c.file("as before", x, 0, 3, 1, 2, 2, 1, 3);
        c.file("as before", x, 5, 3, 1);
        c.told("nothing is done", x, 0, 0, 0, 0, 0, 0, 27);
    }

    private static void fullButTheLast(Check c) {
        Face x = c.make(40, 3);
        int[] freeBehind = {39, 39, 39, 38, 38, 38, 37};
        for (int i = 0; i < freeBehind.length; i++) {
            x.append(0, 10 * i, i);
            c.due("FREE behind record " + i, x.told(6), freeBehind[i]);
            c.due("key of record " + i, x.key(0, i), 10 * i);
        }
        // the runs of 6 and 2 records are merged to 8, in three pages: two of them are full
        Check.fill(x, 1, 4, 0, 5, 0, 6, 0, 7, 0, 8, 0, 1, 0, 9, 0, 2, 0);
        c.due("sort", x.sort(1, 2, 3, 0), 8);
        c.runs("sort", x, 6, 2);
        c.due("FREE behind sort", x.told(6), 31);
        c.due("the last page has room", x.append(2, 3, 0), 9);
        c.due("FREE behind the ninth", x.told(6), 31);
        c.due("it is full now", x.append(2, 0, 0), 10);
        c.due("FREE behind the tenth", x.told(6), 30);
        c.file("by their numbers", x, 2, 1, 0, 2, 0, 4, 0, 5, 0, 6, 0, 7, 0, 8, 0, 9, 0, 3, 0, 0, 0);
        // four records of each once: a full page, and one with room for two
        Check.fill(x, 3, 3, 3, 4, 4, 3, 3, 1, 1, 2, 2, 1, 1, 2, 2, 4, 4);
        c.due("distinct", x.distinct(3, 3, 3), 4);
        c.due("FREE behind distinct", x.told(6), 28);
        Check.fill(x, 3, 5, 5, 6, 6);
        c.due("FREE behind the sixth", x.told(6), 28);
        c.due("drop", x.drop(3), 2);
        // two pairs and room for one
        Check.fill(x, 3, 1, 1, 1, 2);
        Check.fill(x, 4, 1, 3);
        c.due("join", x.join(3, 4, 5, 3), 2);
        c.due("FREE behind join", x.told(6), 27);
        c.due("the last page has room", x.append(5, 8, 8), 3);
        c.due("FREE behind the third", x.told(6), 27);
        c.file("join", x, 5, 1, 3, 2, 3, 8, 8);
    }

    private static void emptyAtFirst(Check c) {
        for (int file = 0; file <= 5; file++) {
            Face x = c.make(5, 3);
            c.file("new", x, file);
            c.due("new: key(" + file + ", 0)", x.key(file, 0), 0);
            c.due("new: tag(" + file + ", 0)", x.tag(file, 0), 0);
            c.due("new: sort(" + file + ")", x.sort(file, 0, 3, 0), 0);
            c.due("new: distinct(" + file + ")", x.distinct(file, 0, 3), 0);
            c.due("new: join(" + file + ")", x.join(file, file, 0, 3), 0);
            c.due("new: drop(" + file + ")", x.drop(file), 0);
            c.due("new: append(" + file + ")", x.append(file, 1, 1), 1);
        }
    }

    private static void noPageIsLost(Check c) {
        Face x = c.make(24, 2);
        Check.fillAlike(x, 0, 7, 5);
        Check.fillFalling(x, 1, 7);
        pagesAddUp(c, "append", x);
        c.due("sort", x.sort(1, 2, 3, 0), 7);
        pagesAddUp(c, "sort", x);
        c.due("sort to itself", x.sort(2, 2, 3, 2), 7);
        pagesAddUp(c, "sort to itself", x);
        c.due("distinct", x.distinct(0, 3, 3), 5);
        pagesAddUp(c, "distinct", x);
        c.due("too large", x.join(0, 0, 4, 3), -3);
        pagesAddUp(c, "too large", x);
        c.due("too many pairs", x.join(0, 0, 4, 5), -2);
        pagesAddUp(c, "too many pairs", x);
        c.due("no such budget", x.join(0, 0, 4, 2), NONE);
        pagesAddUp(c, "no such budget", x);
        c.due("join", x.join(1, 1, 4, 3), 7);
        pagesAddUp(c, "join", x);
        Check.fillFalling(x, 5, 7);
        c.due("FULL", x.sort(5, 0, 3, 0), -2);
        pagesAddUp(c, "FULL", x);
        c.due("FULL", x.distinct(5, 5, 3), -2);
        pagesAddUp(c, "FULL", x);
        c.due("FULL", x.join(5, 5, 5, 16), -2);
        pagesAddUp(c, "FULL", x);
        int gone = 0;
        for (int file = 0; file <= 5; file++) {
            gone += x.drop(file);
            pagesAddUp(c, "drop", x);
        }
        c.due("dropped in all", gone, 3 + 4 + 4 + 3 + 4 + 4);
        c.due("FREE at the end", x.told(6), 24);
    }

    private static void pagesAddUp(Check c, String when, Face x) {
        int sum = x.told(6);
        for (int file = 0; file <= 5; file++) {
            sum += (x.size(file) + x.told(8) - 1) / x.told(8);
        }
        c.due(when + ": FREE pages and those of files", sum, x.told(7));
    }

    private static void noneIsMinusOne(Check c) {
        Face x = c.make(1, 1);
        c.due("NONE", x.none(), -1);
        c.due("size(6)", x.size(6), x.none());
        c.due("told(9)", x.told(9), x.none());
        c.due("run(0)", x.run(0), x.none());
    }

    private static void pagesOfTheDisk(Check c) {
        int[][] cases = {{LOW, 1}, {-512, 1}, {-1, 1}, {0, 1}, {1, 1}, {2, 2}, {511, 511}, {512, 512}, {513, 512},
            {1024, 512}, {HIGH, 512}};
        for (int[] one : cases) {
            c.due("pages of new(" + one[0] + ", 3)", c.make(one[0], 3).told(7), one[1]);
            c.due("FREE of new(" + one[0] + ", 3)", c.make(one[0], 3).told(6), one[1]);
            c.due("records of new(" + one[0] + ", 3)", c.make(one[0], 3).told(8), 3);
        }
    }

    private static void all512Pages(Check c) {
        Face x = c.make(600, 1);
        Check.fillAlike(x, 0, 1, 14);
        c.due("196 pages", x.join(0, 0, 1, 16), 196);
        c.due("196 pages more", x.join(0, 0, 2, 16), 196);
        c.due("they are not there a third time", x.join(0, 0, 3, 16), -2);
        for (int i = 1; i <= 512 - 14 - 2 * 196; i++) {
            c.due("append " + i, x.append(4, i, i), i);
        }
        c.due("FREE", x.told(6), 0);
        c.due("the 513th page", x.append(5, 0, 0), NONE);
    }

    private static void recordsOfAPage(Check c) {
        int[][] cases = {{LOW, 1}, {-16, 1}, {-1, 1}, {0, 1}, {1, 1}, {2, 2}, {15, 15}, {16, 16}, {17, 16}, {32, 16},
            {HIGH, 16}};
        for (int[] one : cases) {
            Face x = c.make(2, one[0]);
            String when = "new(2, " + one[0] + ")";
            c.due(when + ": records", x.told(8), one[1]);
            c.due(when + ": pages", x.told(7), 2);
            for (int i = 1; i <= 2 * one[1]; i++) {
                c.due(when + ": append", x.append(0, i, i), i);
            }
            c.due(when + ": one more", x.append(0, 0, 0), NONE);
        }
    }

    private static void all8192Records(Check c) {
        Face x = c.make(512, 16);
        Check.fillAlike(x, 0, 1, 89);
        c.due("496 pages", x.join(0, 0, 1, 16), 89 * 89);
        c.told("496 pages", x, 6 * 6 + 496, 24, 12 + 496, 2, 0, 502, 10, 512, 16);
        c.due("no room for them twice", x.sort(1, 1, 16, 0), -2);
        c.due("drop", x.drop(0), 6);
        for (int i = 89 * 89 + 1; i <= 8192; i++) {
            c.due("append " + i, x.append(1, i, -i), i);
        }
        c.due("FREE", x.told(6), 0);
        c.due("one more", x.append(1, 0, 0), NONE);
        c.due("one more of another", x.append(0, 0, 0), NONE);
        c.due("the first", x.key(1, 0), 1);
        c.due("the last", x.key(1, 8191), 8192);
        c.due("the last", x.tag(1, 8191), -8192);
        c.due("one behind", x.key(1, 8192), 0);
        c.due("drop", x.drop(1), 512);
    }

    /** Half of the disk is sorted to the other half: 64 runs of 64 records, and no page is to spare. */
    private static void all8192AreSorted(Check c) {
        Face x = c.make(512, 16);
        Check.fillAlike(x, 0, 1, 64);
        c.due("256 pages", x.join(0, 0, 1, 16), 4096);
        c.due("no room beside file 0", x.sort(1, 1, 3, 2), -2);
        x.drop(0);
        c.due("falling", x.sort(1, 1, 3, 2), 4096);
        c.told("falling", x, 2 * 7 * 256, 7 * 256, 7 * 256, 64, 6, 512, 256);
        c.due("the first run", x.run(0), 64);
        c.due("the last run", x.run(63), 64);
        for (int i = 0; i < 4096; i += 63) {
            c.due("key of " + i, x.key(1, i), 64 - i / 64);
            c.due("tag of " + i, x.tag(1, i), i % 64 + 1);
        }
    }

    private static void allAreFree(Check c) {
        for (int pages : new int[] {1, 2, 40, 512}) {
            c.due("FREE of " + pages, c.make(pages, 1).told(6), pages);
        }
        Face x = c.make(3, 1);
        Check.fillRising(x, 0, 3);
        c.file("each page is used", x, 0, 1, 1, 2, 2, 3, 3);
    }

    private static void appendCounts(Check c) {
        Face x = c.make(20, 2);
        for (int i = 1; i <= 5; i++) {
            c.due("append to 0", x.append(0, 10 - i, i), i);
            c.due("append to 5", x.append(5, i, -i), i);
        }
        c.file("behind", x, 0, 9, 1, 8, 2, 7, 3, 6, 4, 5, 5);
        c.file("behind", x, 5, 1, -1, 2, -2, 3, -3, 4, -4, 5, -5);
        x.drop(0);
        c.due("behind a drop", x.append(0, 1, 1), 1);
        x.sort(5, 5, 3, 2);
        c.due("behind a sort", x.append(5, 9, 9), 6);
        c.file("behind a sort", x, 5, 5, -5, 4, -4, 3, -3, 2, -2, 1, -1, 9, 9);
        x.join(5, 5, 0, 3);
        c.due("behind a join", x.append(0, 9, 8), 7);
        c.due("its key", x.key(0, 6), 9);
    }

    private static void appendOnFullDisk(Check c) {
        Face x = c.make(2, 2);
        c.due("the first page", x.append(0, 1, 1), 1);
        c.due("in the first page", x.append(0, 2, 2), 2);
        c.due("the last page", x.append(1, 3, 3), 1);
        c.due("no page for a full file", x.append(0, 4, 4), NONE);
        c.due("no page for an empty file", x.append(2, 4, 4), NONE);
        c.due("the last page has room", x.append(1, 5, 5), 2);
        c.due("and has none now", x.append(1, 6, 6), NONE);
        c.file("full", x, 0, 1, 1, 2, 2);
        c.file("full", x, 1, 3, 3, 5, 5);
        c.file("full", x, 2);
        c.told("full", x, 0, 0, 0, 0, 0, 0, 0);
        x.drop(0);
        c.due("a page again", x.append(2, 7, 7), 1);
        c.file("a page again", x, 2, 7, 7);
    }

    private static void appendToNoFile(Check c) {
        Face x = c.make(9, 2);
        Check.fill(x, 0, 1, 1);
        Check.fill(x, 5, 2, 2);
        for (int file : NO_FILES) {
            c.due("append(" + file + ")", x.append(file, 3, 3), NONE);
        }
        c.file("as before", x, 0, 1, 1);
        c.file("as before", x, 5, 2, 2);
        c.due("FREE", x.told(6), 7);
    }

    private static void appendIsNoTransfer(Check c) {
        Face x = c.make(30, 1);
        Check.fillFalling(x, 0, 4);
        c.told("ahead of any", x, 0, 0, 0, 0, 0, 0, 26);
        x.sort(0, 1, 5, 0);
        c.told("sorted", x, 16, 8, 8, 2, 1, 8, 22);
        Check.fillFalling(x, 2, 9);
        c.told("appended", x, 16, 8, 8, 2, 1, 8, 13);
    }

    private static void dropCountsPages(Check c) {
        for (int count = 0; count <= 9; count++) {
            Face x = c.make(20, 4);
            Check.fillRising(x, 0, 1);
            Check.fillRising(x, 3, count);
            int pages = count == 0 ? 0 : count <= 4 ? 1 : count <= 8 ? 2 : 3;
            c.due("FREE beside " + count, x.told(6), 19 - pages);
            c.due("drop of " + count, x.drop(3), pages);
            c.due("FREE behind a drop of " + count, x.told(6), 19);
        }
        Face x = c.make(20, 4);
        Check.fillFalling(x, 0, 9);
        x.sort(0, 1, 3, 0);
        c.due("drop of what was sorted", x.drop(1), 3);
        c.due("drop of where it came from", x.drop(0), 3);
    }

    private static void emptyAgain(Check c) {
        Face x = c.make(3, 2);
        Check.fill(x, 0, 1, 1, 2, 2, 3, 3, 4, 4);
        Check.fill(x, 1, 5, 5);
        c.due("drop", x.drop(0), 2);
        c.file("dropped", x, 0);
        c.due("key of what is gone", x.key(0, 0), 0);
        c.due("tag of what is gone", x.tag(0, 0), 0);
        c.file("the other file", x, 1, 5, 5);
        c.due("drop of an empty file", x.drop(0), 0);
        c.due("drop of one that was never used", x.drop(4), 0);
        c.due("append behind", x.append(0, 6, 6), 1);
        c.file("append behind", x, 0, 6, 6);
    }

    private static void dropNoFile(Check c) {
        Face x = c.make(9, 2);
        Check.fill(x, 0, 1, 1);
        Check.fill(x, 5, 2, 2);
        for (int file : NO_FILES) {
            c.due("drop(" + file + ")", x.drop(file), NONE);
        }
        c.file("as before", x, 0, 1, 1);
        c.file("as before", x, 5, 2, 2);
        c.due("FREE", x.told(6), 7);
    }

    private static void sizeCounts(Check c) {
        Face x = c.make(30, 3);
        c.due("at first", x.size(0), 0);
        for (int i = 1; i <= 7; i++) {
            x.append(0, i / 2, 0);
            c.due("appended", x.size(0), i);
        }
        x.sort(0, 1, 3, 0);
        c.due("sorted", x.size(1), 7);
        x.distinct(0, 2, 3);
        c.due("distinct", x.size(2), 4);
        x.join(0, 2, 3, 3);
        c.due("joined", x.size(3), 7);
        c.due("as before", x.size(0), 7);
        x.drop(0);
        c.due("dropped", x.size(0), 0);
        x.sort(0, 1, 3, 0);
        c.due("sorted from nothing", x.size(1), 0);
    }

    private static void sizeOfNoFile(Check c) {
        Face x = c.make(9, 2);
        Check.fill(x, 0, 1, 1);
        Check.fill(x, 5, 2, 2);
        for (int file : NO_FILES) {
            c.due("size(" + file + ")", x.size(file), NONE);
        }
        c.due("size(4)", x.size(4), 0);
    }

    private static void keysOfRecords(Check c) {
        Face x = c.make(20, 2);
        Check.fill(x, 2, 11, 1, 12, 2, 13, 3, 14, 4, 15, 5);
        for (int i = 0; i < 5; i++) {
            c.due("key(2, " + i + ")", x.key(2, i), 11 + i);
        }
        x.sort(2, 2, 3, 2);
        for (int i = 0; i < 5; i++) {
            c.due("falling: key(2, " + i + ")", x.key(2, i), 15 - i);
        }
    }

    private static void tagsOfRecords(Check c) {
        Face x = c.make(20, 2);
        Check.fill(x, 2, 11, 1, 12, 2, 13, 3, 14, 4, 15, 5);
        for (int i = 0; i < 5; i++) {
            c.due("tag(2, " + i + ")", x.tag(2, i), 1 + i);
        }
        x.sort(2, 2, 3, 2);
        for (int i = 0; i < 5; i++) {
            c.due("falling: tag(2, " + i + ")", x.tag(2, i), 5 - i);
        }
    }

    private static void noSuchRecord(Check c, boolean ofKeys) {
        Face x = c.make(9, 4);
        Check.fill(x, 0, 11, 12, 13, 14);
        Check.fill(x, 5, 11, 12);
        for (int i : new int[] {-1, -2, 2, 3, 4, 5, 8, LOW, HIGH}) {
            c.due("record " + i, ofKeys ? x.key(0, i) : x.tag(0, i), 0);
        }
        for (int file : NO_FILES) {
            c.due("file " + file, ofKeys ? x.key(file, 0) : x.tag(file, 0), 0);
        }
        c.due("an empty file", ofKeys ? x.key(1, 0) : x.tag(1, 0), 0);
        // pages that were full of others' records are used again
        Check.fillAlike(x, 1, 77, 7 * 4);
        x.drop(1);
        Check.fill(x, 1, 41, 42);
        Check.fill(x, 2, 51, 52);
        for (int file = 1; file <= 2; file++) {
            for (int i = 1; i <= 4; i++) {
                c.due("behind record 0", ofKeys ? x.key(file, i) : x.tag(file, i), 0);
            }
        }
        x.drop(0);
        c.due("a dropped file", ofKeys ? x.key(0, 0) : x.tag(0, 0), 0);
    }
}
