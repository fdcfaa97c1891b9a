import java.util.List;
import java.util.function.Consumer;

/**
 * A sentence of the document with a test of its own. The faults are Models in which this sentence is broken:
 * the test must find each of them wrong, so it would find the class wrong, too.
 */
record Sentence(String section, String quote, Consumer<Check> trial, List<Fault> faults) {

    /** One way to break a sentence. */
    record Fault(String name, Face.Maker maker) {
    }

    static Sentence of(String section, String quote, Consumer<Check> trial, Fault... faults) {
        return new Sentence(section, quote, trial, List.of(faults));
    }

    static Fault fault(String name, Face.Maker maker) {
        return new Fault(name, maker);
    }
}
