/**
 * The document's face, so that one test can be held against the class, against the Model, and against a
 * Model that is broken on purpose.
 */
interface Face {
    /** Makes what is tested. */
    interface Maker {
        Face make(int pages, int records);
    }

    int append(int file, int key, int tag);

    int drop(int file);

    int sort(int from, int to, int budget, int mode);

    int distinct(int from, int to, int budget);

    int join(int a, int b, int to, int budget);

    int size(int file);

    int key(int file, int i);

    int tag(int file, int i);

    int told(int what);

    int run(int i);

    /** The constant NONE. */
    int none();

    /** The class itself. */
    static Face real(int pages, int records) {
        return new Real(new ExternalSort(pages, records));
    }

    /** Hands every call on to the class. */
    final class Real implements Face {
        private final ExternalSort x;

        Real(ExternalSort x) {
            this.x = x;
        }

        @Override
        public int append(int file, int key, int tag) {
            return x.append(file, key, tag);
        }

        @Override
        public int drop(int file) {
            return x.drop(file);
        }

        @Override
        public int sort(int from, int to, int budget, int mode) {
            return x.sort(from, to, budget, mode);
        }

        @Override
        public int distinct(int from, int to, int budget) {
            return x.distinct(from, to, budget);
        }

        @Override
        public int join(int a, int b, int to, int budget) {
            return x.join(a, b, to, budget);
        }

        @Override
        public int size(int file) {
            return x.size(file);
        }

        @Override
        public int key(int file, int i) {
            return x.key(file, i);
        }

        @Override
        public int tag(int file, int i) {
            return x.tag(file, i);
        }

        @Override
        public int told(int what) {
            return x.told(what);
        }

        @Override
        public int run(int i) {
            return x.run(i);
        }

        @Override
        public int none() {
            return ExternalSort.NONE;
        }
    }
}
