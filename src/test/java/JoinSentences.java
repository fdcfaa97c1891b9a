import java.util.ArrayList;
import java.util.List;

/** The terms of JOINING, and promise 6. */
final class JoinSentences {
    private static final int NONE = -1;
    private static final int FULL = -2;
    private static final int TOO_LARGE = -3;

    static List<Sentence> all() {
        List<Sentence> all = new ArrayList<>();
        all.addAll(sorting());
        all.addAll(pairs());
        all.addAll(tooLarge());
        all.addAll(promise());
        return all;
    }

    private static List<Sentence> sorting() {
        return List.of(
            Sentence.of("Terms",
                "==== JOINING a with b: both are sorted in mode 0 (a first) to runs of their own;",
                JoinSentences::bothAreSorted,
                Sentence.fault("b first", (p, r) -> new Model(p, r) {
                    @Override
                    List<int[]> joined(List<int[]> a, List<int[]> b, int budget) throws Refused {
                        List<int[]> right = arrange(b, budget, 0, false);
                        List<int[]> left = arrange(a, budget, 0, false);
                        askTooLarge(left, right, roomOf(budget));
                        readSorted(left, right);
                        return written(pairs(left, right));
                    }
                }),
                Sentence.fault("in mode 1", (p, r) -> new Model(p, r) {
                    @Override
                    List<int[]> joined(List<int[]> a, List<int[]> b, int budget) throws Refused {
                        List<int[]> left = arrange(a, budget, 1, false);
                        List<int[]> right = arrange(b, budget, 1, false);
                        askTooLarge(left, right, roomOf(budget));
                        readSorted(left, right);
                        return written(pairs(left, right));
                    }
                }),
                Sentence.fault("in mode 2", (p, r) -> new Model(p, r) {
                    @Override
                    List<int[]> joined(List<int[]> a, List<int[]> b, int budget) throws Refused {
                        List<int[]> left = arrange(a, budget, 2, false);
                        List<int[]> right = arrange(b, budget, 2, false);
                        askTooLarge(left, right, roomOf(budget));
                        readSorted(left, right);
                        return written(pairs(left, right));
                    }
                }),
                Sentence.fault("one file is sorted once", (p, r) -> new Model(p, r) {
                    @Override
                    List<int[]> joined(List<int[]> a, List<int[]> b, int budget) throws Refused {
                        if (a != b) {
                            return super.joined(a, b, budget);
                        }
                        List<int[]> sorted = arrange(a, budget, 0, false);
                        askTooLarge(sorted, sorted, roomOf(budget));
                        readSorted(sorted, sorted);
                        return written(pairs(sorted, sorted));
                    }
                })),
            Sentence.of("Terms", "all pages of both are read once, in order;", JoinSentences::bothAreRead,
                Sentence.fault("not if there is no pair", (p, r) -> new Model(p, r) {
                    @Override
                    void readSorted(List<int[]> left, List<int[]> right) {
                        int before = reads;
                        super.readSorted(left, right);
                        reads = pairs(left, right).isEmpty() ? before : reads;
                    }
                }),
                Sentence.fault("not if one is empty", (p, r) -> new Model(p, r) {
                    @Override
                    void readSorted(List<int[]> left, List<int[]> right) {
                        int before = reads;
                        super.readSorted(left, right);
                        reads = left.isEmpty() || right.isEmpty() ? before : reads;
                    }
                }),
                Sentence.fault("up to the last key that both have", (p, r) -> new Model(p, r) {
                    @Override
                    void readSorted(List<int[]> left, List<int[]> right) {
                        super.readSorted(left, right);
                        int last = left.size();
                        while (last > 0 && countOf(right, left.get(last - 1)[0]) == 0) {
                            last--;
                        }
                        reads -= pagesOf(left.size()) - pagesOf(last);
                    }
                }),
                Sentence.fault("b again for each record of a", (p, r) -> new Model(p, r) {
                    @Override
                    void readSorted(List<int[]> left, List<int[]> right) {
                        super.readSorted(left, right);
                        reads += Math.max(0, left.size() - 1) * pagesOf(right.size());
                    }
                })));
    }

    private static List<Sentence> pairs() {
        return List.of(
            Sentence.of("Terms", "for each key that both have: each record of a of that key, in order, with each of b:"
                    + " a record: a's tag as its key, b's tag as its tag.",
                JoinSentences::pairsOfLikeKeys,
                Sentence.fault("each of b with each of a", (p, r) -> new Model(p, r) {
                    @Override
                    List<int[]> pairs(List<int[]> left, List<int[]> right) {
                        return turned(super.pairs(right, left));
                    }
                }),
                Sentence.fault("b's tag as the key", (p, r) -> new Model(p, r) {
                    @Override
                    List<int[]> pairs(List<int[]> left, List<int[]> right) {
                        return turned(super.pairs(left, right));
                    }
                }),
                Sentence.fault("the first with the first", (p, r) -> new Model(p, r) {
                    @Override
                    List<int[]> pairs(List<int[]> left, List<int[]> right) {
                        return super.pairs(firsts(left), firsts(right));
                    }
                }),
                Sentence.fault("the same pair once", (p, r) -> new Model(p, r) {
                    @Override
                    List<int[]> pairs(List<int[]> left, List<int[]> right) {
                        List<int[]> once = new ArrayList<>();
                        for (int[] pair : super.pairs(left, right)) {
                            if (once.stream().noneMatch(other -> isSame(other, pair))) {
                                once.add(pair);
                            }
                        }
                        return once;
                    }
                })),
            Sentence.of("Terms", "for each key that both have: each record of a of that key, in order, with each of b:"
                    + " a record: a's tag as its key, b's tag as its tag.",
                JoinSentences::keysThatOneHas,
                Sentence.fault("a's own come with 0", (p, r) -> new Model(p, r) {
                    @Override
                    List<int[]> pairs(List<int[]> left, List<int[]> right) {
                        List<int[]> outer = new ArrayList<>(super.pairs(left, right));
                        left.stream().filter(one -> countOf(right, one[0]) == 0)
                            .forEach(one -> outer.add(new int[] {one[1], 0}));
                        return outer;
                    }
                }),
                Sentence.fault("the first key is not looked at", (p, r) -> new Model(p, r) {
                    @Override
                    List<int[]> pairs(List<int[]> left, List<int[]> right) {
                        return super.pairs(left, right.isEmpty() ? right : right.subList(1, right.size()));
                    }
                }),
                Sentence.fault("the last key is not looked at", (p, r) -> new Model(p, r) {
                    @Override
                    List<int[]> pairs(List<int[]> left, List<int[]> right) {
                        return super.pairs(left, right.isEmpty() ? right : right.subList(0, right.size() - 1));
                    }
                })),
            Sentence.of("Terms", "Those come to a new file, whose pages are written when they are full, or at the end;",
                JoinSentences::pagesOfPairs,
                Sentence.fault("a page more behind a full one", (p, r) -> new Model(p, r) {
                    @Override
                    List<int[]> written(List<int[]> whole) throws Refused {
                        List<int[]> file = super.written(whole);
                        writes += file.size() % records == 0 ? 1 : 0;
                        return file;
                    }
                }),
                Sentence.fault("what is left at the end is not", (p, r) -> new Model(p, r) {
                    @Override
                    List<int[]> written(List<int[]> whole) throws Refused {
                        List<int[]> file = super.written(whole);
                        writes -= file.size() % records == 0 ? 0 : 1;
                        return file;
                    }
                }),
                Sentence.fault("a page for each record of a", (p, r) -> new Model(p, r) {
                    @Override
                    List<int[]> written(List<int[]> whole) throws Refused {
                        List<int[]> file = super.written(whole);
                        writes += file.size() - pagesOf(file.size());
                        return file;
                    }
                })),
            Sentence.of("Terms", "all pages of the sorted ones are FREE ahead of the first page that is written.",
                JoinSentences::freeAheadOfWriting,
                Sentence.fault("as all is done", (p, r) -> new Model(p, r) {
                    @Override
                    void readSorted(List<int[]> left, List<int[]> right) {
                        reads += pagesOf(left.size()) + pagesOf(right.size());
                    }
                }),
                Sentence.fault("only those of a", (p, r) -> new Model(p, r) {
                    @Override
                    void readSorted(List<int[]> left, List<int[]> right) {
                        super.readSorted(left, right);
                        workPages = pagesOf(right.size());
                    }
                }),
                Sentence.fault("all but the last", (p, r) -> new Model(p, r) {
                    @Override
                    void readSorted(List<int[]> left, List<int[]> right) {
                        super.readSorted(left, right);
                        workPages = right.isEmpty() ? 0 : 1;
                    }
                })));
    }

    private static List<int[]> turned(List<int[]> pairs) {
        return pairs.stream().map(pair -> new int[] {pair[1], pair[0]}).toList();
    }

    private static List<int[]> firsts(List<int[]> sorted) {
        List<int[]> firsts = new ArrayList<>();
        for (int[] record : sorted) {
            if (Model.countOf(firsts, record[0]) == 0) {
                firsts.add(record);
            }
        }
        return firsts;
    }

    private static List<Sentence> tooLarge() {
        String quote = "A key of which b has more than H records: too large";
        String asked = "(asked, as FULL of what comes is, behind both sortings, ahead of reading them; of both too large"
            + " first).";
        return List.of(
            Sentence.of("Terms", quote, JoinSentences::moreThanH,
                Sentence.fault("H is too large", (p, r) -> new Model(p, r) {
                    @Override
                    void askTooLarge(List<int[]> left, List<int[]> right, int room) throws Refused {
                        super.askTooLarge(left, right, room - 1);
                    }
                }),
                Sentence.fault("H and one are not", (p, r) -> new Model(p, r) {
                    @Override
                    void askTooLarge(List<int[]> left, List<int[]> right, int room) throws Refused {
                        super.askTooLarge(left, right, room + 1);
                    }
                }),
                Sentence.fault("nothing is", (p, r) -> new Model(p, r) {
                    @Override
                    void askTooLarge(List<int[]> left, List<int[]> right, int room) {
                        // nothing
                    }
                })),
            Sentence.of("Terms", quote, JoinSentences::moreThanHOfOneKey,
                Sentence.fault("of all keys", (p, r) -> new Model(p, r) {
                    @Override
                    void askTooLarge(List<int[]> left, List<int[]> right, int room) throws Refused {
                        if (right.size() > room) {
                            throw new Refused(TOO_LARGE);
                        }
                    }
                }),
                Sentence.fault("of the first key", (p, r) -> new Model(p, r) {
                    @Override
                    void askTooLarge(List<int[]> left, List<int[]> right, int room) throws Refused {
                        if (!right.isEmpty() && countOf(right, right.get(0)[0]) > room) {
                            throw new Refused(TOO_LARGE);
                        }
                    }
                })),
            Sentence.of("Terms", quote, JoinSentences::moreThanHOfB,
                Sentence.fault("a, too", (p, r) -> new Model(p, r) {
                    @Override
                    void askTooLarge(List<int[]> left, List<int[]> right, int room) throws Refused {
                        super.askTooLarge(left, right, room);
                        super.askTooLarge(right, left, room);
                    }
                }),
                Sentence.fault("a, not b", (p, r) -> new Model(p, r) {
                    @Override
                    void askTooLarge(List<int[]> left, List<int[]> right, int room) throws Refused {
                        super.askTooLarge(right, left, room);
                    }
                }),
                Sentence.fault("of keys that both have", (p, r) -> new Model(p, r) {
                    @Override
                    void askTooLarge(List<int[]> left, List<int[]> right, int room) throws Refused {
                        super.askTooLarge(left, right.stream().filter(one -> countOf(left, one[0]) > 0).toList(), room);
                    }
                })),
            Sentence.of("Terms", asked, JoinSentences::askedBehindSorting,
                Sentence.fault("ahead of the sortings", (p, r) -> new Model(p, r) {
                    @Override
                    List<int[]> joined(List<int[]> a, List<int[]> b, int budget) throws Refused {
                        askTooLarge(a, b, roomOf(budget));
                        return super.joined(a, b, budget);
                    }
                }),
                Sentence.fault("ahead of sorting b", (p, r) -> new Model(p, r) {
                    private boolean isSecond;

                    @Override
                    void begin(int to) {
                        super.begin(to);
                        isSecond = false;
                    }

                    @Override
                    List<int[]> arrange(List<int[]> file, int budget, int mode, boolean once) throws Refused {
                        if (isSecond) {
                            askTooLarge(file, file, roomOf(budget));
                        }
                        isSecond = true;
                        return super.arrange(file, budget, mode, once);
                    }
                })),
            Sentence.of("Terms", asked, JoinSentences::tooLargeAheadOfFull,
                Sentence.fault("FULL first", (p, r) -> new Model(p, r) {
                    @Override
                    void askTooLarge(List<int[]> left, List<int[]> right, int room) throws Refused {
                        if (pagesOf(pairs(left, right).size()) > free() + workPages) {
                            throw new Refused(FULL);
                        }
                        super.askTooLarge(left, right, room);
                    }
                })),
            Sentence.of("Terms", asked, JoinSentences::askedAheadOfReading,
                Sentence.fault("it was read by then", (p, r) -> new Model(p, r) {
                    @Override
                    int failed(int to, int answer) {
                        told[0]++;
                        told[1]++;
                        return super.failed(to, answer);
                    }
                }),
                Sentence.fault("the runs are told by then", (p, r) -> new Model(p, r) {
                    @Override
                    int failed(int to, int answer) {
                        toldLengths = lengths;
                        return super.failed(to, answer);
                    }
                })));
    }

    private static List<Sentence> promise() {
        String quote = "Two files (or one with itself) are joined, to a file (any): how many records.";
        return List.of(
            Sentence.of("Promise 6", quote, JoinSentences::toAnyFile,
                Sentence.fault("not with itself", (p, r) -> new Model(p, r) {
                    @Override
                    public int join(int a, int b, int to, int budget) {
                        return a == b ? NONE : super.join(a, b, to, budget);
                    }
                }),
                Sentence.fault("not to a", (p, r) -> new Model(p, r) {
                    @Override
                    public int join(int a, int b, int to, int budget) {
                        return a == to ? NONE : super.join(a, b, to, budget);
                    }
                }),
                Sentence.fault("not to b", (p, r) -> new Model(p, r) {
                    @Override
                    public int join(int a, int b, int to, int budget) {
                        return b == to ? NONE : super.join(a, b, to, budget);
                    }
                }),
                Sentence.fault("how many pages", (p, r) -> new Model(p, r) {
                    @Override
                    public int join(int a, int b, int to, int budget) {
                        int count = super.join(a, b, to, budget);
                        return count < 0 ? count : pagesOf(count);
                    }
                })),
            Sentence.of("Promise 6", "NONE: no such file, BUDGET;", JoinSentences::refused,
                Sentence.fault("FULL is asked first", (p, r) -> new Model(p, r) {
                    @Override
                    public int join(int a, int b, int to, int budget) {
                        return free() < 1 ? FULL : super.join(a, b, to, budget);
                    }
                }),
                Sentence.fault("the file it comes to is not asked", (p, r) -> new Model(p, r) {
                    @Override
                    public int join(int a, int b, int to, int budget) {
                        return super.join(a, b, isFile(to) ? to : 0, budget);
                    }
                }),
                Sentence.fault("nothing is asked for an empty file", (p, r) -> new Model(p, r) {
                    @Override
                    public int join(int a, int b, int to, int budget) {
                        return size(a) == 0 && size(b) == 0 && isFile(to) ? 0 : super.join(a, b, to, budget);
                    }
                })),
            Sentence.of("Promise 6", "-2 FULL;", JoinSentences::fullIsMinusTwo,
                Sentence.fault("NONE", (p, r) -> new Model(p, r) {
                    @Override
                    int failed(int to, int answer) {
                        return super.failed(to, answer == FULL ? NONE : answer);
                    }
                }),
                Sentence.fault("what comes is cut off", (p, r) -> new Model(p, r) {
                    @Override
                    List<int[]> written(List<int[]> whole) throws Refused {
                        return super.written(whole.subList(0, Math.min(whole.size(), free() * records)));
                    }
                })),
            Sentence.of("Promise 6", "-3 too large.", JoinSentences::tooLargeIsMinusThree,
                Sentence.fault("FULL", (p, r) -> new Model(p, r) {
                    @Override
                    int failed(int to, int answer) {
                        return super.failed(to, FULL);
                    }
                }),
                Sentence.fault("the file it was to come to is empty", (p, r) -> new Model(p, r) {
                    @Override
                    int failed(int to, int answer) {
                        list(to).clear();
                        return super.failed(to, answer);
                    }
                })));
    }

    private static void bothAreSorted(Check c) {
        // a has the runs 3, 2 and 1, b the runs 2 3 and 1
        Face x = c.make(40, 1);
        Check.fill(x, 0, 3, 1, 2, 2, 1, 3);
        Check.fill(x, 1, 2, 4, 3, 5, 1, 6);
        c.due("join", x.join(0, 1, 2, 3), 3);
        c.runs("join", x, 1, 1, 1, 2, 1);
        c.file("by rising keys", x, 2, 3, 6, 2, 4, 1, 5);
        // of like keys by when they came, whatever their tags
        Check.fill(x, 3, 5, 9, 5, 3, 4, 7, 5, 6);
        Check.fill(x, 4, 5, 2, 6, 0, 5, 1);
        c.due("like keys", x.join(3, 4, 5, 4), 6);
        c.file("like keys", x, 5, 9, 2, 9, 1, 3, 2, 3, 1, 6, 2, 6, 1);
        // one with itself is sorted twice
        c.due("with itself", x.join(0, 0, 5, 3), 3);
        c.runs("with itself", x, 1, 1, 1, 1, 1, 1);
        // 3, 2 and 3 read and written, twice; then 6 read and 3 written
        c.told("with itself", x, 41, 22, 19, 6, 4);
    }

    private static void bothAreRead(Check c) {
        Face x = c.make(40, 1);
        Check.fill(x, 0, 1, 1, 2, 2);
        Check.fill(x, 1, 3, 3);
        c.due("no like keys", x.join(0, 1, 5, 3), 0);
        c.told("no like keys", x, 9, 6, 3, 2, 0, 6);
        c.due("b is empty", x.join(0, 2, 5, 3), 0);
        c.told("b is empty", x, 6, 4, 2, 1, 0, 5);
        c.due("a is empty", x.join(2, 0, 5, 3), 0);
        c.told("a is empty", x, 6, 4, 2, 1, 0, 5);
        c.due("both are empty", x.join(2, 3, 5, 3), 0);
        c.told("both are empty", x, 0, 0, 0, 0, 0, 3);
        // a's first key alone is b's
        Check.fill(x, 4, 1, 4);
        c.due("one like key", x.join(0, 4, 5, 3), 1);
        c.told("one like key", x, 10, 6, 4, 2, 0, 7);
    }

    private static void pairsOfLikeKeys(Check c) {
        Face x = c.make(60, 2);
        Check.fill(x, 0, 1, 10, 2, 20, 2, 21, 3, 30);
        Check.fill(x, 1, 2, 200, 3, 300, 2, 201, 4, 400);
        c.due("join", x.join(0, 1, 2, 3), 5);
        c.file("join", x, 2, 20, 200, 20, 201, 21, 200, 21, 201, 30, 300);
        c.due("the other way", x.join(1, 0, 2, 3), 5);
        c.file("the other way", x, 2, 200, 20, 200, 21, 201, 20, 201, 21, 300, 30);
        // the same records twice: the same pair four times
        Check.fill(x, 3, 7, 1, 7, 1);
        c.due("the same", x.join(3, 3, 4, 3), 4);
        c.file("the same", x, 4, 1, 1, 1, 1, 1, 1, 1, 1);
    }

    private static void keysThatOneHas(Check c) {
        Face x = c.make(60, 2);
        Check.fill(x, 0, 1, 1, 3, 2, 5, 3, 9, 4);
        Check.fill(x, 1, 2, 5, 4, 6, 6, 7);
        c.due("none that both have", x.join(0, 1, 2, 3), 0);
        c.file("none that both have", x, 2);
        Check.fill(x, 3, 1, 8, 2, 9);
        c.due("the first one", x.join(0, 3, 2, 3), 1);
        c.file("the first one", x, 2, 1, 8);
        Check.fill(x, 4, 8, 10, 9, 11);
        c.due("the last one", x.join(0, 4, 2, 3), 1);
        c.file("the last one", x, 2, 4, 11);
        c.due("the other way", x.join(4, 0, 2, 3), 1);
        c.file("the other way", x, 2, 11, 4);
        c.due("all", x.join(0, 0, 2, 3), 4);
        c.file("all", x, 2, 1, 1, 2, 2, 3, 3, 4, 4);
    }

    private static void pagesOfPairs(Check c) {
        // a page and a page sorted, then so many pages of what comes
        int[] pages = {0, 1, 1, 2, 2};
        for (int count = 1; count < pages.length; count++) {
            Face x = c.make(20, 2);
            Check.fillAlike(x, 0, 7, 2);
            Check.fillAlike(x, 1, 7, 1);
            Check.fillAlike(x, 2, 7, count);
            boolean one = count <= 2;
            c.due(count + " pairs", x.join(2, 1, 3, 3), count);
            c.due(count + " pairs: written", x.told(2), (one ? 1 : 2) + 1 + pages[count]);
            c.due(count + " pairs: pages", x.drop(3), pages[count]);
        }
        Face x = c.make(20, 2);
        Check.fill(x, 0, 1, 1);
        Check.fill(x, 1, 2, 2);
        c.due("no pairs", x.join(0, 1, 2, 3), 0);
        c.due("no pairs: written", x.told(2), 2);
        c.due("no pairs: pages", x.drop(2), 0);
    }

    private static void freeAheadOfWriting(Check c) {
        // 3 pages of the file and 6 that are sorted; those go ahead of the nine that come
        for (int pages = 11; pages <= 13; pages++) {
            Face x = c.make(pages, 1);
            Check.fillAlike(x, 0, 5, 3);
            boolean full = pages < 12;
            c.due("nine pairs on " + pages, x.join(0, 0, 1, 5), full ? FULL : 9);
            c.due("nine pairs on " + pages + ": peak", x.told(5), full ? 0 : 12);
        }
        // no page is FREE behind the sortings, and all are needed
        Face x = c.make(6, 1);
        Check.fillAlike(x, 0, 5, 2);
        c.due("four pairs on six pages", x.join(0, 0, 0, 4), 4);
        c.told("four pairs on six pages", x, 16, 8, 8, 2, 0, 6, 2);
        c.file("four pairs on six pages", x, 0, 1, 1, 1, 2, 2, 1, 2, 2);
    }

    private static void moreThanH(Check c) {
        for (int records = 1; records <= 3; records++) {
            for (int budget = 3; budget <= 16; budget++) {
                int room = (budget - 2) * records;
                Face x = c.make(512, records);
                Check.fill(x, 0, 7, 1);
                Check.fillAlike(x, 1, 7, room);
                String when = records + " a page, budget " + budget;
                c.due(when + ": H", x.join(0, 1, 2, budget), room);
                x.append(1, 7, 0);
                c.due(when + ": H and one", x.join(0, 1, 2, budget), TOO_LARGE);
                c.due(when + ": as before", x.size(2), room);
                int more = budget == 16 ? NONE : room + 1;
                c.due(when + ": a page more", x.join(0, 1, 2, budget + 1), more);
            }
        }
    }

    private static void moreThanHOfOneKey(Check c) {
        Face x = c.make(100, 1);
        // H is 2
        Check.fill(x, 0, 3, 1);
        Check.fill(x, 1, 5, 1, 3, 2, 5, 3, 3, 4, 1, 5);
        c.due("two of each", x.join(0, 1, 2, 4), 2);
        c.due("H is 1", x.join(0, 1, 2, 3), TOO_LARGE);
        Check.fill(x, 3, 9, 1, 3, 2, 9, 3, 2, 4, 9, 5, 10, 6);
        c.due("three of 9, one not beside the other", x.join(0, 3, 2, 4), TOO_LARGE);
        Check.fill(x, 4, 9, 1, 3, 2, 9, 3, 2, 4, 10, 6);
        c.due("two of 9", x.join(0, 4, 2, 4), 1);
        Check.fill(x, 5, 3, 1, 4, 2, 4, 3, 3, 4, 3, 5, 4, 6);
        c.due("three of 3 and of 4", x.join(0, 5, 2, 4), TOO_LARGE);
        c.due("three of 3 and of 4, H is 3", x.join(0, 5, 2, 5), 3);
    }

    private static void moreThanHOfB(Check c) {
        Face x = c.make(100, 2);
        // H is 2
        Check.fillAlike(x, 0, 5, 5);
        Check.fillAlike(x, 1, 5, 2);
        c.due("a may have more", x.join(0, 1, 2, 3), 10);
        c.due("b may not", x.join(1, 0, 2, 3), TOO_LARGE);
        c.due("one with itself", x.join(0, 0, 2, 3), TOO_LARGE);
        c.due("as before", x.size(2), 10);
        // the document asks for a key of b, whether a has it or not
        Check.fill(x, 3, 4, 1);
        c.due("a key that a has not", x.join(3, 0, 2, 3), TOO_LARGE);
        c.due("a is empty", x.join(4, 0, 2, 3), TOO_LARGE);
        c.due("b is empty", x.join(0, 4, 2, 3), 0);
    }

    private static void askedBehindSorting(Check c) {
        // two alike records, of which one is too many: they take six pages with what is sorted
        for (int pages = 2; pages <= 7; pages++) {
            Face x = c.make(pages, 1);
            Check.fillAlike(x, 0, 5, 2);
            c.due("on " + pages, x.join(0, 0, 1, 3), pages < 6 ? FULL : TOO_LARGE);
            c.due("FREE on " + pages, x.told(6), pages - 2);
        }
    }

    private static void tooLargeAheadOfFull(Check c) {
        Face x = c.make(9, 1);
        Check.fillAlike(x, 0, 5, 3);
        c.due("nine pairs find six pages", x.join(0, 0, 1, 5), FULL);
        c.due("and are too many for two in memory", x.join(0, 0, 1, 4), TOO_LARGE);
        c.due("and for one", x.join(0, 0, 0, 3), TOO_LARGE);
        c.file("as before", x, 0, 5, 1, 5, 2, 5, 3);
        c.due("FREE", x.told(6), 6);
    }

    private static void askedAheadOfReading(Check c) {
        Face x = c.make(11, 1);
        Check.fillAlike(x, 0, 5, 3);
        c.due("sort", x.sort(0, 0, 3, 0), 3);
        c.due("too large", x.join(0, 0, 1, 3), TOO_LARGE);
        c.due("FULL", x.join(0, 0, 1, 5), FULL);
        c.told("as before", x, 6, 3, 3, 1, 0, 6, 8);
        c.runs("as before", x, 3);
    }

    private static void toAnyFile(Check c) {
        for (int to = 0; to <= 5; to++) {
            Face x = c.make(40, 2);
            Check.fill(x, 0, 7, 1, 5, 2, 7, 3);
            Check.fill(x, 1, 7, 4, 6, 5);
            Check.fill(x, 2, 9, 9);
            c.due("to " + to, x.join(0, 1, to, 3), 2);
            c.file("to " + to, x, to, 1, 4, 3, 4);
            Face y = c.make(40, 2);
            Check.fill(y, 0, 7, 1, 5, 2, 7, 3);
            c.due("with itself to " + to, y.join(0, 0, to, 3), 5);
            c.file("with itself to " + to, y, to, 2, 2, 1, 1, 1, 3, 3, 1, 3, 3);
            c.due("FREE", y.told(6), to == 0 ? 37 : 35);
        }
    }

    private static void refused(Check c) {
        Face x = c.make(1, 2);
        Check.fill(x, 0, 3, 1);
        for (int file : new int[] {-1, 6, Integer.MIN_VALUE, Integer.MAX_VALUE}) {
            c.due("a is " + file, x.join(file, 0, 0, 3), NONE);
            c.due("b is " + file, x.join(0, file, 0, 3), NONE);
            c.due("to is " + file, x.join(0, 0, file, 3), NONE);
            c.due("of nothing, to " + file, x.join(1, 2, file, 3), NONE);
        }
        for (int budget : new int[] {2, 17, 0, -1, Integer.MIN_VALUE, Integer.MAX_VALUE}) {
            c.due("budget is " + budget, x.join(0, 0, 0, budget), NONE);
            c.due("of nothing, budget is " + budget, x.join(1, 1, 1, budget), NONE);
        }
        c.file("as before", x, 0, 3, 1);
        c.told("nothing is done", x, 0, 0, 0, 0, 0, 0, 0);
    }

    private static void fullIsMinusTwo(Check c) {
        // four pages of files; a's sorted two, b's sorted two, then four pairs less those that are FREE again
        int[] answers = {FULL, FULL, FULL, FULL, 4, 4};
        for (int more = 0; more < answers.length; more++) {
            Face x = c.make(4 + more, 1);
            Check.fillAlike(x, 0, 5, 2);
            Check.fillAlike(x, 1, 5, 2);
            c.due(more + " FREE pages", x.join(0, 1, 2, 4), answers[more]);
            c.due(more + " FREE pages: size", x.size(2), Math.max(0, answers[more]));
        }
        Face x = c.make(11, 1);
        Check.fillAlike(x, 0, 5, 3);
        c.due("what comes", x.join(0, 0, 1, 5), FULL);
        c.due("what comes: size", x.size(1), 0);
    }

    private static void tooLargeIsMinusThree(Check c) {
        Face x = c.make(40, 2);
        Check.fillAlike(x, 0, 5, 3);
        Check.fill(x, 1, 5, 9);
        c.due("three of 5", x.join(1, 0, 1, 3), TOO_LARGE);
        c.due("three of 5", x.join(0, 0, 0, 3), TOO_LARGE);
        c.file("as before", x, 0, 5, 1, 5, 2, 5, 3);
        c.file("as before", x, 1, 5, 9);
        c.told("nothing is done", x, 0, 0, 0, 0, 0, 0, 37);
        c.runs("nothing is done", x);
        c.due("with a page more", x.join(1, 0, 1, 4), 3);
    }
}
