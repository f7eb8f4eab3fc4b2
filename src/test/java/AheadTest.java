import java.io.IOException;
import java.lang.reflect.Field;
import java.lang.reflect.Modifier;
import java.nio.file.Files;
import java.nio.file.Path;
import java.util.ArrayList;
import java.util.List;
import java.util.regex.Matcher;
import java.util.regex.Pattern;

/** What the document says ahead of its promises: what an object is, the public face, the groups of calls. */
public final class AheadTest {
    private static final Path SOURCE = Path.of("src/main/java/PavedAnew.java");
    private static final Path DOCUMENT = Path.of("../shared/DOC.md");
    private static final int MOST_CALLS = 512;

    private final Edges edges = new Edges("AheadTest");
    private final String document = Files.readString(DOCUMENT);
    private final String source = Files.readString(SOURCE);

    private AheadTest() throws IOException {
    }

    public static void main(String[] args) throws IOException, ReflectiveOperationException {
        AheadTest t = new AheadTest();
        t.constants();
        t.faceWithItsNames();
        t.groups();
        t.whatNeedsNoTwoBlocks();
        t.usedFor512Calls();
        t.objectsShareNothing();
        t.edges.end(1, 0);
    }

    private void due(String what, long got, long want) {
        edges.due(what, got, want);
    }

    private void holds(String what, boolean is) {
        edges.due(what, is ? 1 : 0, 1);
    }

    private void constants() throws ReflectiveOperationException {
        edges.sentence(0, "public static final int NONE = -1, UNKNOWN = -101, OUTSIDE = -102, STATE = -103, FULL = -104;");
        Matcher told = Pattern.compile("([A-Z]+) = (-\\d+)").matcher(faceTold());
        int constants = 0;
        while (told.find()) {
            Field field = PavedAnew.class.getField(told.group(1));
            constants++;
            due("its value: " + field, field.getInt(null), Integer.parseInt(told.group(2)));
            holds("an int: " + field, field.getType() == int.class);
            due("its modifiers: " + field, field.getModifiers(), Modifier.PUBLIC | Modifier.STATIC | Modifier.FINAL);
        }
        due("how many", constants, 5);
        due("no other public field", PavedAnew.class.getFields().length, constants);
    }

    /** The lines of the document's face. */
    private String faceTold() {
        return document.substring(document.indexOf("```java") + 8, document.indexOf("```", document.indexOf("```java") + 8));
    }

    /** Each line of the face stands in the class, with the names of what a call takes, and in the same order. */
    private void faceWithItsNames() {
        edges.sentence(0, "public final class PavedAnew {");
        holds("the class", source.contains("\npublic final class PavedAnew {\n"));
        int at = 0;
        int calls = 0;
        for (String line : faceTold().split("\n")) {
            if (line.endsWith(");")) {
                int found = source.indexOf("\n" + line.replace(";", " {") + "\n", at);
                holds("in its order: " + line.trim(), found >= 0);
                at = Math.max(at, found);
                calls++;
            }
        }
        due("the constructor and 29 methods", calls, 30);
    }

    /** The group's words stand ahead of its calls, and of no others. */
    private void groups() {
        edges.sentence(0, "Ahead of the calls `letters`, `blank`, `fault`, `law`, `lawTold` the interface says: ---- the law.");
        Matcher group = Pattern.compile("Ahead of the calls (.*) the interface says: (---- .*)\\.").matcher(document);
        int calls = 0;
        while (group.find()) {
            List<String> due = new ArrayList<>();
            for (String call : group.group(1).split(", ")) {
                due.add(call.replace("`", ""));
            }
            List<String> is = callsBehind("    // " + group.group(2) + "\n");
            holds(group.group(2) + " is ahead of " + is + ", due is " + due, is.equals(due));
            calls += due.size();
        }
        due("calls in all groups", calls, 29);
    }

    private List<String> callsBehind(String comment) {
        List<String> calls = new ArrayList<>();
        int from = source.indexOf(comment);
        if (from < 0) {
            return calls;
        }
        int next = source.indexOf("    // ----", from + comment.length());
        String part = source.substring(from, next < 0 ? source.length() : next);
        Matcher call = Pattern.compile("\n    public (?:int|long) (\\w+)\\(").matcher(part);
        while (call.find()) {
            calls.add(call.group(1));
        }
        return calls;
    }

    /** Only the springs' group names that STATE; last(), sure() and springs() name STATE themselves, was() does not. */
    private void whatNeedsNoTwoBlocks() {
        edges.sentence(0, "Ahead of the calls `was`, `last`, `sure`, `springs` the interface says: ---- last year, springs to come.");
        PavedAnew one = Streets.plain("", 1);
        due("was", one.was(0, 5), -1);
        edges.sentence(0, "Ahead of the calls `block`, `about`, `as`, `wheels`, `at`, `turn`, `thief` the interface says: ---- blocks.");
        due("about", one.about(0, 4), 5);
        due("as", one.as(0, 0), 0);
        due("wheels", one.wheels(0, 3), 1);
        due("at", one.at(0), 0);
        due("turn", one.turn(0), 0);
        edges.sentence(0, "Ahead of the calls `image`, `restore`, `count`, `digest` the interface says: ---- what is told.");
        due("image", one.image(), 1);
        due("restore", one.restore(), 1);
        due("count", one.count(6), 3);
        edges.sentence(0, "BLOCKS (2 to 7 lie in a STREET, numbered) are of KINDS");
        due("a second", one.block(0, 0, 0), 1);
        due("two are a STREET", one.looks(), 1);
        due("seven are one", Streets.plain("", 7).looks(), 6);
    }

    private void usedFor512Calls() {
        edges.sentence(0, "An object is used for at most 512 calls after it has been made; what later calls answer is free.");
        PavedAnew laws = new PavedAnew();
        PavedAnew years = Streets.plain("", 2);
        PavedAnew floods = Streets.plain("", 7);
        long seed = 1;
        for (int call = 1; call <= MOST_CALLS; call++) {
            due("law() " + call, laws.law(), call);
            if (call > 3) {
                due("years(1) " + call, years.years(1), call - 3);
            }
            if (call > 8) {
                int got = floods.flood((int) seed);
                for (int draw = 0; draw < 12; draw++) {
                    seed = (1103515245L * seed + 12345L) % (1L << 31);
                }
                due("flood() " + call, got, seed);
            }
        }
        edges.due("none throws later", noneThrows(laws), MOST_CALLS);
    }

    private static int noneThrows(PavedAnew x) {
        int done = 0;
        for (int i = 0; i < MOST_CALLS; i++) {
            Streets.allTold(x);
            done++;
        }
        return done;
    }

    private void objectsShareNothing() {
        edges.sentence(0, "An object is used");
        PavedAnew x = Streets.rich("nm3", 6);
        PavedAnew y = Streets.rich("", 2);
        long told = y.digest();
        x.thief(0);
        x.image();
        x.blank();
        x.law();
        x.wheels(0, 9);
        due("one tells nothing of another", y.digest(), told);
        due("nor has it another's IMAGE", y.restore(), 1);
    }
}
