import java.io.IOException;
import java.util.ArrayList;
import java.util.List;
import java.util.Set;
import java.util.TreeSet;

/** The edges that promises 1 to 6 name, and what is said of THE LAW ahead of them, sentence by sentence. */
public final class LawEdgesTest {
    private static final int LEAST = Edges.LEAST, MOST = Edges.MOST;
    private static final int UNKNOWN = Edges.UNKNOWN, OUTSIDE = Edges.OUTSIDE, STATE = Edges.STATE, FULL = Edges.FULL;

    private final Edges edges = new Edges("LawEdgesTest");
    private final List<String> laws = allLaws();
    private final Set<String> beginnings = beginningsOf(laws);

    private LawEdgesTest() throws IOException {
    }

    public static void main(String[] args) throws IOException {
        LawEdgesTest t = new LawEdgesTest();
        t.aNewObjectHasNothing();
        t.wheelsAtFirst();
        t.lettersUpToEight();
        t.lettersBehindThePage();
        t.lowestByteFirst();
        t.bytesAbove126();
        t.bytesBehindAZero();
        t.above16();
        t.outsideAheadOfFull();
        t.blankOfNoneAndOfAll();
        t.blankLeavesTheLaw();
        t.everyLawAndEveryLetterBehindIt();
        t.faultIsTheFirst();
        t.faultOfAnEmptyAndOfAFullPage();
        t.everyLawIsRead();
        t.anEmptyText();
        t.anotherLawIsGone();
        t.noLaw();
        t.lawToldOutside();
        t.lawToldMost();
        t.edges.end(1, 6);
    }

    /** The laws as the document tells them: perhaps n, then perhaps t, then perhaps w, then perhaps m and 1 to 9. */
    private static List<String> allLaws() {
        List<String> laws = new ArrayList<>();
        for (String n : new String[] {"", "n"}) {
            for (String t : new String[] {"", "t"}) {
                for (String w : new String[] {"", "w"}) {
                    for (String m : new String[] {"", "m1", "m2", "m3", "m4", "m5", "m6", "m7", "m8", "m9"}) {
                        laws.add(n + t + w + m);
                    }
                }
            }
        }
        return laws;
    }

    private static Set<String> beginningsOf(List<String> laws) {
        Set<String> all = new TreeSet<>();
        for (String text : laws) {
            for (int length = 0; length <= text.length(); length++) {
                all.add(text.substring(0, length));
            }
        }
        return all;
    }

    private static PavedAnew pageOf(int letters) {
        return Streets.withPage("a".repeat(letters));
    }

    /** Eight letters, one of them with this code. */
    private static long eightWith(int place, long code) {
        return Checks.word("aaaaaaaa") & ~(255L << 8 * place) | code << 8 * place;
    }

    // ---- 1

    private void aNewObjectHasNothing() {
        PavedAnew x = new PavedAnew();
        edges.sentence(1, "No BLOCKS; an empty LAW.");
        for (int what = 0; what <= 6; what++) {
            edges.due("count " + what, x.count(what), 0);
        }
        for (int number = -1; number <= 7; number++) {
            edges.due("BLOCK " + number, x.about(number, 0), UNKNOWN);
            edges.due("PLACE " + number, x.at(number), UNKNOWN);
        }
        edges.due("no letter", x.fault(), 0);
        edges.due("no IMAGE", x.restore(), STATE);
        edges.sentence(0, "without it nothing is so (MOST: 10)");
        int[] told = {0, 0, 0, 10};
        for (int what = 0; what <= 3; what++) {
            edges.due("lawTold " + what, x.lawTold(what), told[what]);
        }
    }

    private void wheelsAtFirst() {
        PavedAnew x = new PavedAnew();
        edges.sentence(0, "in a PLACE go WHEELS (0 to 9; 1 at first)");
        for (int place = 0; place <= 6; place++) {
            edges.due("PLACE " + place, x.wheels(place, 9), 1);
        }
        edges.due("of another object, too", new PavedAnew().wheels(6, 0), 1);
    }

    // ---- 2

    private void lettersUpToEight() {
        edges.sentence(2, "up to eight, told by their codes in the bytes of w, the lowest byte first, until a byte that is 0");
        for (int letters = 0; letters <= 8; letters++) {
            PavedAnew x = new PavedAnew();
            edges.due(letters + " letters", x.letters(Checks.word("a".repeat(letters))), letters);
            edges.due(letters + " are there", x.count(1), letters);
        }
    }

    private void lettersBehindThePage() {
        edges.sentence(2, "Letters come behind THE PAGE");
        PavedAnew x = Streets.withPage("n");
        edges.due("a second", x.letters('t'), 2);
        edges.due("none", x.letters(0), 2);
        edges.due("two more", x.letters(Checks.word("m3")), 4);
        edges.due("read as ntm3", x.law(), 1);
        edges.due("t", x.lawTold(1), 1);
        edges.due("MOST", x.lawTold(3), 3);
        PavedAnew wrong = Streets.withPage("t");
        wrong.letters('n');
        edges.due("tn is no LAW", wrong.fault(), 1);
    }

    private void lowestByteFirst() {
        edges.sentence(2, "the lowest byte first");
        PavedAnew x = new PavedAnew();
        x.letters('n' | 't' << 8);
        edges.due("n, then t", x.fault(), 2);
        PavedAnew y = new PavedAnew();
        y.letters('t' | 'n' << 8);
        edges.due("t, then n", y.fault(), 1);
        PavedAnew z = new PavedAnew();
        z.letters('n' | (long) 't' << 8 | (long) 'w' << 16 | (long) 'm' << 24 | (long) '9' << 32);
        edges.due("above 31 bits, too", z.law(), 1);
        edges.due("its MOST", z.lawTold(3), 9);
    }

    private void bytesAbove126() {
        edges.sentence(2, "OUTSIDE: a byte above 126");
        for (int place = 0; place < 8; place++) {
            edges.due("1 in byte " + place, new PavedAnew().letters(eightWith(place, 1)), 8);
            edges.due("126 in byte " + place, new PavedAnew().letters(eightWith(place, 126)), 8);
            for (long code : new long[] {127, 128, 129, 255}) {
                long w = eightWith(place, code);
                edges.refused(code + " in byte " + place, () -> Streets.rich("w", 3), x -> x.letters(w), OUTSIDE);
            }
        }
        for (long w : new long[] {127, 128, -1, Long.MIN_VALUE, Long.MAX_VALUE}) {
            edges.refused("w " + w, () -> pageOf(3), x -> x.letters(w), OUTSIDE);
        }
    }

    private void bytesBehindAZero() {
        edges.sentence(2, "or one behind a 0 that is not 0");
        for (int zero = 0; zero < 7; zero++) {
            for (int behind = zero + 1; behind < 8; behind++) {
                long ahead = Checks.word("n".repeat(zero));
                for (long code : new long[] {1, 'n', 126}) {
                    long w = ahead | code << 8 * behind;
                    edges.refused("0 in byte " + zero + ", " + code + " in " + behind,
                            () -> pageOf(1), x -> x.letters(w), OUTSIDE);
                }
            }
        }
    }

    private void above16() {
        edges.sentence(2, "FULL: above 16");
        edges.due("none behind 16", pageOf(16).letters(0), 16);
        for (int letters = 1; letters <= 8; letters++) {
            long w = Checks.word("n".repeat(letters));
            edges.due(letters + " that make 16", pageOf(16 - letters).letters(w), 16);
            int ahead = 17 - letters;
            edges.refused(letters + " that make 17", () -> pageOf(ahead), x -> x.letters(w), FULL);
            edges.refused(letters + " behind 16", () -> pageOf(16), x -> x.letters(w), FULL);
        }
        PavedAnew x = pageOf(12);
        x.letters(Checks.word("nnnnn"));
        edges.due("behind a refusal fewer may come", x.letters(Checks.word("nnnn")), 16);
    }

    private void outsideAheadOfFull() {
        edges.sentence(2, "OUTSIDE: a byte above 126, or one behind a 0 that is not 0; FULL: above 16.");
        edges.refused("127 behind 16", () -> pageOf(16), x -> x.letters(127), OUTSIDE);
        edges.refused("a letter behind a 0 behind 16", () -> pageOf(16), x -> x.letters('n' | 't' << 16), OUTSIDE);
        edges.refused("the eighth above 126 behind 9", () -> pageOf(9), x -> x.letters(eightWith(7, 127)), OUTSIDE);
    }

    // ---- 3

    private void blankOfNoneAndOfAll() {
        edges.sentence(3, "THE PAGE is empty: how many letters it had.");
        for (int letters = 0; letters <= 16; letters++) {
            PavedAnew x = pageOf(letters);
            edges.due(letters + " letters", x.blank(), letters);
            edges.due("empty then", x.count(1), 0);
            edges.due("no fault then", x.fault(), 0);
            edges.due("empty again", x.blank(), 0);
            x.letters(Checks.word("aaaaaaaa"));
            edges.due("16 may come again", x.letters(Checks.word("aaaaaaaa")), 16);
        }
    }

    private void blankLeavesTheLaw() {
        edges.sentence(3, "THE PAGE is empty");
        PavedAnew x = Streets.underLaw("ntwm4");
        Streets.write(x, "m");
        x.blank();
        edges.due("THE LAW stays", x.lawTold(3), 4);
        edges.due("read once", x.count(2), 1);
    }

    // ---- 4 and 5

    private void everyLawAndEveryLetterBehindIt() {
        edges.sentence(4, "the first letter of THE PAGE that no LAW has there, behind those ahead of it");
        for (String ahead : beginnings) {
            for (char letter = 1; letter <= 126; letter++) {
                String text = ahead + letter;
                PavedAnew x = Streets.withPage(text);
                edges.due("fault of '" + text + "'", x.fault(), text.length() - (beginnings.contains(text) ? 0 : 1));
                edges.due("it changes nothing", x.count(1), text.length());
                edges.due("law of '" + text + "'", x.law(), laws.contains(text) ? 1 : STATE);
            }
        }
    }

    private void faultIsTheFirst() {
        edges.sentence(4, "of the first letter of THE PAGE");
        for (String behind : new String[] {"n", "twm9", "x", "m1"}) {
            edges.due("x" + behind, Streets.withPage("x" + behind).fault(), 0);
            edges.due("ntx" + behind, Streets.withPage("ntx" + behind).fault(), 2);
            edges.due("m9" + behind, Streets.withPage("m9" + behind).fault(), 2);
            edges.due("ntwmx" + behind, Streets.withPage("ntwmx" + behind).fault(), 4);
        }
    }

    private void faultOfAnEmptyAndOfAFullPage() {
        edges.sentence(4, "how many letters it has, if there is none");
        edges.due("an empty page", new PavedAnew().fault(), 0);
        for (String text : beginnings) {
            edges.due("'" + text + "'", Streets.withPage(text).fault(), text.length());
        }
        edges.due("16 letters", Streets.withPage("ntwm9" + "n".repeat(11)).fault(), 5);
        edges.due("16 wrong ones", pageOf(16).fault(), 0);
    }

    private void everyLawIsRead() {
        edges.sentence(5, "how often one was read; THE PAGE is empty then");
        PavedAnew x = new PavedAnew();
        int read = 0;
        for (String text : laws) {
            Streets.write(x, text);
            read++;
            edges.due("law '" + text + "'", x.law(), read);
            edges.due("THE PAGE behind '" + text + "'", x.count(1), 0);
            edges.due("n of '" + text + "'", x.lawTold(0), text.contains("n") ? 1 : 0);
            edges.due("t of '" + text + "'", x.lawTold(1), text.contains("t") ? 1 : 0);
            edges.due("w of '" + text + "'", x.lawTold(2), text.contains("w") ? 1 : 0);
        }
        edges.due("told by count()", x.count(2), read);
    }

    private void anEmptyText() {
        edges.sentence(0, "An empty text is one, too");
        PavedAnew x = new PavedAnew();
        edges.due("read", x.law(), 1);
        edges.due("and again", x.law(), 2);
        x.letters('x');
        edges.due("not any text", x.law(), STATE);
        x.blank();
        edges.due("a third", x.law(), 3);
    }

    private void anotherLawIsGone() {
        edges.sentence(5, "(another one is gone)");
        PavedAnew x = Streets.underLaw("ntwm1");
        Streets.write(x, "t");
        x.law();
        int[] told = {0, 1, 0, 10};
        for (int what = 0; what <= 3; what++) {
            edges.due("of t, " + what, x.lawTold(what), told[what]);
        }
        x.law();
        edges.due("of an empty one", x.lawTold(1), 0);
    }

    private void noLaw() {
        edges.sentence(5, "STATE: it is none.");
        for (String text : new String[] {"m", "nm", "ntwm", "m0", "m:", "m10", "nn", "tn", "wt", "mn", "1", "N", "ntw ", "x", "xn", "ntxm1", "nnt",
            "tnw", "m0n", "m1m1", "ntwm9w"}) {
            edges.refused("'" + text + "'", () -> {
                PavedAnew x = Streets.rich("tm3", 3);
                x.blank();
                Streets.write(x, text);
                return x;
            }, PavedAnew::law, STATE);
        }
        PavedAnew x = Streets.withPage("m");
        x.law();
        x.letters('5');
        edges.due("behind a refusal a letter more makes it one", x.law(), 1);
        edges.due("its MOST", x.lawTold(3), 5);
    }

    // ---- 6

    private void lawToldOutside() {
        edges.sentence(6, "what = 0 \"n\", 1 \"t\", 2 \"w\" (1, 0), 3 MOST. OUTSIDE.");
        int[][] told = {{1, 0, 0, 10}, {0, 1, 0, 10}, {0, 0, 1, 10}, {0, 0, 0, 7}};
        String[] texts = {"n", "t", "w", "m7"};
        for (int i = 0; i < texts.length; i++) {
            for (int what = 0; what <= 3; what++) {
                edges.due("lawTold " + what + " of " + texts[i], Streets.underLaw(texts[i]).lawTold(what), told[i][what]);
            }
        }
        for (int what : new int[] {-1, 4, LEAST, MOST}) {
            edges.refused("what " + what, () -> Streets.rich("n", 2), x -> x.lawTold(what), OUTSIDE);
        }
        PavedAnew x = Streets.underLaw("n");
        Streets.write(x, "t");
        edges.due("what is on THE PAGE is not THE LAW yet", x.lawTold(1), 0);
    }

    private void lawToldMost() {
        edges.sentence(0, "MOST (1 to 9, hundreds of wear)");
        for (int most = 1; most <= 9; most++) {
            edges.due("m" + most, Streets.underLaw("m" + most).lawTold(3), most);
        }
        edges.due("m0", Streets.withPage("m0").law(), STATE);
        edges.due("m10", Streets.withPage("m10").law(), STATE);
        edges.due("without it", Streets.underLaw("ntw").lawTold(3), 10);
    }
}
