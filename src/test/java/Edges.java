import java.io.IOException;
import java.nio.file.Files;
import java.nio.file.Path;
import java.util.Set;
import java.util.TreeSet;
import java.util.function.Supplier;
import java.util.function.ToIntFunction;
import java.util.regex.Matcher;
import java.util.regex.Pattern;

/**
 * Checks that are told by a promise's number and by the document's own words. The words must stand in that
 * promise (0: in what stands ahead of promise 1), so that a test can't outlive its sentence.
 */
final class Edges {
    static final int LEAST = Integer.MIN_VALUE, MOST = Integer.MAX_VALUE;
    static final int NONE = -1, UNKNOWN = -101, OUTSIDE = -102, STATE = -103, FULL = -104;

    private static final Path DOCUMENT = Path.of("../shared/DOC.md");
    private static final int PROMISES = 30;
    private static final Pattern REFUSAL = Pattern.compile("\\b(UNKNOWN|OUTSIDE|STATE|FULL)\\b");

    private final Checks checks;
    private final String[] parts;
    private final Set<Integer> promisesHeld = new TreeSet<>();
    private final Set<String> refusalsSeen = new TreeSet<>();
    private int promise;
    private String words = "";

    Edges(String name) throws IOException {
        checks = new Checks(name);
        parts = partsOf(Files.readString(DOCUMENT));
    }

    private static String[] partsOf(String document) {
        String[] parts = document.replaceAll("\\s+", " ").split("## Promise \\d+: ");
        if (parts.length != PROMISES + 1) {
            throw new IllegalStateException("the document has " + (parts.length - 1) + " promises");
        }
        parts[PROMISES] = parts[PROMISES].split(" ## ")[0];
        return parts;
    }

    /** The checks that follow hold the class to these words of a promise. */
    void sentence(int ofPromise, String itsWords) {
        promise = ofPromise;
        words = itsWords;
        promisesHeld.add(promise);
        checks.holds(promise + ": the document says '" + words + "'", parts[promise].contains(words));
    }

    void due(String call, long got, long want) {
        checks.due(promise + ": '" + words + "': " + call, got, want);
    }

    /** A call that is refused: its answer, and that nothing which any later call tells is another. */
    void refused(String call, Supplier<PavedAnew> maker, ToIntFunction<PavedAnew> refusing, int want) {
        PavedAnew hit = maker.get();
        due(call, refusing.applyAsInt(hit), want);
        refusalsSeen.add(promise + nameOf(want));
        long[] told = Streets.allTold(hit);
        long[] spared = Streets.allTold(maker.get());
        for (int i = 0; i < spared.length; i++) {
            due(call + " changes nothing, as told by " + i, told[i], spared[i]);
        }
    }

    private static String nameOf(int refusal) {
        switch (refusal) {
            case UNKNOWN: return " UNKNOWN";
            case OUTSIDE: return " OUTSIDE";
            case STATE: return " STATE";
            case FULL: return " FULL";
            default: throw new IllegalStateException(refusal + " is no refusal");
        }
    }

    /** Each promise from one to another must have been held to, and each refusal that it names seen. */
    void end(int first, int last) {
        for (int p = first; p <= last; p++) {
            checks.holds("promise " + p + " has a test", promisesHeld.contains(p));
            Matcher named = REFUSAL.matcher(parts[p]);
            while (named.find()) {
                checks.holds("promise " + p + " is refused with " + named.group(1),
                        refusalsSeen.contains(p + " " + named.group(1)));
            }
        }
        checks.end();
    }
}
