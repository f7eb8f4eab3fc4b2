import java.io.IOException;
import java.math.BigInteger;
import java.util.ArrayList;
import java.util.List;

/** The edges that promises 27 to 30 name: images, counts and the digest, sentence by sentence. */
public final class ToldEdgesTest {
    private static final int LEAST = Edges.LEAST, MOST = Edges.MOST;
    private static final int UNKNOWN = Edges.UNKNOWN, OUTSIDE = Edges.OUTSIDE, STATE = Edges.STATE;

    private final Edges edges = new Edges("ToldEdgesTest");

    private ToldEdgesTest() throws IOException {
    }

    public static void main(String[] args) throws IOException {
        ToldEdgesTest t = new ToldEdgesTest();
        t.imageOfNoneAndOfAll();
        t.oneImageTheLatest();
        t.imageKeepsAllThatItNames();
        t.imageKeepsNothingElse();
        t.restoreAgainAndAgain();
        t.restoreRefused();
        t.countEachThing();
        t.countWheelsUnderBlocks();
        t.countRefused();
        t.refusedCallsAreNotCounted();
        t.ofSeveralRefusalsTheFirst();
        t.digestOfFewBlocks();
        t.digestFromTwoBlocksOn();
        t.digestByLaw();
        t.digestWraps();
        t.digestChangesNothing();
        t.edges.end(27, 30);
    }

    // ---- 27

    private void imageOfNoneAndOfAll() {
        edges.sentence(27, "An IMAGE is kept (one; the latest): how many BLOCKS.");
        for (int blocks = 0; blocks <= 7; blocks++) {
            PavedAnew x = Streets.plain("", blocks);
            edges.due("of " + blocks, x.image(), blocks);
            edges.due("they stay", x.count(0), blocks);
            x.block(0, 1, 1);
            edges.due("restored " + blocks, x.restore(), blocks);
            edges.due("told by count()", x.count(0), blocks);
        }
    }

    private void oneImageTheLatest() {
        edges.sentence(27, "(one; the latest)");
        PavedAnew x = Streets.worn("", 1, 2, 3);
        x.image();
        x.turn(0);
        x.image();
        x.turn(1);
        edges.due("three", x.restore(), 3);
        edges.due("the latest", x.about(0, 1), 0);
        edges.due("not what came behind it", x.about(1, 1), 2);
        x.restore();
        edges.due("no earlier one", x.about(0, 1), 0);
    }

    // ---- 28

    private void imageKeepsAllThatItNames() {
        edges.sentence(0, "An IMAGE keeps all BLOCKS, how they lie, HEADS, WHEELS, WAS.");
        PavedAnew x = new PavedAnew();
        x.block(0, 1, 2);
        x.block(3, 4, 5);
        x.block(4, 6, 7);
        Streets.was(x, -1, 9, 0);
        Streets.wheels(x, 3, 4, 5, 6, 7, 8, 9);
        x.lay(Checks.order(2, 0, 1));
        long before = x.digest();
        edges.due("three", x.image(), 3);
        x.thief(0);
        x.block(2, 500, 500);
        x.years(3);
        x.flood(5);
        Streets.was(x, 77, 5, 3);
        Streets.wheels(x, 0, 0, 0, 0, 0, 0, 0);
        edges.due("three again", x.restore(), 3);
        edges.due("all is as it was", x.digest(), before);
        edges.due("how they lie", x.at(0), 2);
        edges.due("WHEELS where no BLOCK lies, too", x.wheels(6, 9), 9);
    }

    private void imageKeepsNothingElse() {
        edges.sentence(28, "It goes on from the IMAGE: how many BLOCKS.");
        PavedAnew x = Streets.plain("w", 3);
        Streets.write(x, "t");
        x.image();
        Streets.write(x, "m5");
        x.law();
        Streets.write(x, "xyz");
        x.howMany();
        x.last(0);
        x.last(0);
        x.springs(1, 0);
        x.restore();
        int[] law = {0, 1, 0, 5};
        for (int what = 0; what <= 3; what++) {
            edges.due("THE LAW stays, " + what, x.lawTold(what), law[what]);
        }
        int[] counts = {3, 3, 2, 1, 2, 1, 3};
        for (int what = 0; what <= 6; what++) {
            edges.due("count " + what, x.count(what), counts[what]);
        }
    }

    private void restoreAgainAndAgain() {
        edges.sentence(28, "It goes on from the IMAGE");
        PavedAnew x = Streets.worn("", 1, 2, 3);
        x.image();
        long before = x.digest();
        for (int i = 0; i < 3; i++) {
            x.years(1);
            x.thief(1);
            Streets.was(x, 8, 8);
            x.wheels(0, 9);
            edges.due("three", x.restore(), 3);
            edges.due("as it was", x.digest(), before);
        }
        PavedAnew none = new PavedAnew();
        none.image();
        none.block(0, 5, 5);
        none.was(0, 5);
        edges.due("none", none.restore(), 0);
        edges.due("a first one again", none.block(1, 7, 7), 0);
        edges.due("a new one", none.about(0, 4), -1);
    }

    private void restoreRefused() {
        edges.sentence(28, "STATE: none was kept.");
        edges.refused("of a new object", PavedAnew::new, PavedAnew::restore, STATE);
        edges.refused("with BLOCKS", () -> Streets.worn("nt", 4, 5, 6), PavedAnew::restore, STATE);
        PavedAnew x = new PavedAnew();
        x.restore();
        x.image();
        edges.due("an IMAGE without a BLOCK is one, too", x.restore(), 0);
    }

    // ---- 29

    private void countEachThing() {
        edges.sentence(29, "0 BLOCKS, 1 letters of THE PAGE, 2 how often THE LAW was read, 3 how often best(), howMany() were done,"
                + " 4 last(), sure(), 5 springs(), 6 WHEELS in all PLACES where a BLOCK lies");
        PavedAnew x = new PavedAnew();
        x.law();
        x.law();
        Streets.write(x, "abcdefghijklmnop");
        x.block(0, 0, 0);
        x.block(0, 0, 0);
        Streets.wheels(x, 7, 6, 5);
        x.best(0);
        x.best(1);
        x.howMany();
        x.last(0);
        x.last(1);
        x.sure(0);
        x.sure(1);
        for (int i = 0; i < 5; i++) {
            x.springs(1, 0);
        }
        int[] want = {2, 16, 2, 3, 4, 5, 13};
        for (int what = 0; what <= 6; what++) {
            edges.due("count " + what, x.count(what), want[what]);
        }
    }

    private void countWheelsUnderBlocks() {
        edges.sentence(29, "6 WHEELS in all PLACES where a BLOCK lies");
        int sum = 0;
        for (int blocks = 0; blocks <= 7; blocks++) {
            PavedAnew x = Streets.plain("", blocks);
            Streets.wheels(x, 9, 8, 7, 0, 6, 5, 4);
            edges.due("of " + blocks, x.count(6), sum);
            sum += new int[] {9, 8, 7, 0, 6, 5, 4, 0}[blocks];
        }
        PavedAnew most = Streets.plain("", 7);
        Streets.wheels(most, 9, 9, 9, 9, 9, 9, 9);
        edges.due("the most", most.count(6), 63);
        most.thief(0);
        edges.due("behind a THIEF", most.count(6), 54);
    }

    private void countRefused() {
        edges.sentence(29, "OUTSIDE.");
        for (int what : new int[] {-1, 7, LEAST, MOST}) {
            edges.refused("what " + what, () -> Streets.rich("n", 4), x -> x.count(what), OUTSIDE);
            edges.refused("what " + what + " of a new object", PavedAnew::new, x -> x.count(what), OUTSIDE);
        }
    }

    private void refusedCallsAreNotCounted() {
        edges.sentence(0, "they change nothing");
        PavedAnew x = Streets.withPage("m");
        x.law();
        x.letters(127);
        x.best(0);
        x.howMany();
        x.last(0);
        x.sure(0);
        x.springs(1, 0);
        x.block(5, 0, 0);
        int[] want = {0, 1, 0, 0, 0, 0, 0};
        for (int what = 0; what <= 6; what++) {
            edges.due("count " + what, x.count(what), want[what]);
        }
    }

    /** One call of each kind for which more than one refusal would be due. */
    private void ofSeveralRefusalsTheFirst() {
        edges.sentence(0, "Refusals, of several the first as told by each call: UNKNOWN (a number names nothing),"
                + " OUTSIDE (it is not as told), STATE (as told), FULL");
        PavedAnew full = Streets.plain("n", 7);
        Streets.write(full, "0123456789abcdef");
        edges.due("letters: OUTSIDE, FULL", full.letters(255), OUTSIDE);
        edges.due("block: OUTSIDE, FULL", full.block(-1, 0, 0), OUTSIDE);
        edges.due("about: UNKNOWN, OUTSIDE", full.about(7, 5), UNKNOWN);
        edges.due("as: UNKNOWN, OUTSIDE", full.as(7, 5), UNKNOWN);
        edges.due("wheels: UNKNOWN, OUTSIDE", full.wheels(7, 10), UNKNOWN);
        edges.due("was: UNKNOWN, OUTSIDE", full.was(7, 1000), UNKNOWN);
        edges.due("lay: OUTSIDE, STATE", full.lay(0), OUTSIDE);
        PavedAnew one = Streets.plain("n", 1);
        edges.due("thief: UNKNOWN, STATE", one.thief(1), UNKNOWN);
        edges.due("lay: STATE, OUTSIDE", one.lay(-1), STATE);
        edges.due("lawful: STATE, OUTSIDE", one.lawful(-1), STATE);
        edges.due("years: STATE, OUTSIDE", one.years(0), STATE);
        edges.due("best: STATE, OUTSIDE", one.best(2), STATE);
        edges.due("carried: STATE, OUTSIDE", one.carried(-1, 3), STATE);
        edges.due("flood: STATE, OUTSIDE", one.flood(-1), STATE);
        edges.due("last: STATE, OUTSIDE", one.last(2), STATE);
        edges.due("sure: UNKNOWN, STATE", one.sure(1), UNKNOWN);
        edges.due("springs: STATE, OUTSIDE", one.springs(13, 3), STATE);
    }

    // ---- 30

    /** The digest by numbers that have no end, cut to a long when all is done. */
    private static long digestOf(List<Integer> numbers) {
        BigInteger h = BigInteger.valueOf(599);
        for (int number : numbers) {
            h = h.multiply(BigInteger.valueOf(31)).add(BigInteger.valueOf(number));
        }
        return h.longValue();
    }

    private static long digestOf(int... numbers) {
        List<Integer> list = new ArrayList<>();
        for (int number : numbers) {
            list.add(number);
        }
        return digestOf(list);
    }

    /** The numbers that the document names, as the other calls tell them. */
    private static List<Integer> numbersOf(PavedAnew x, String page, int... wheels) {
        List<Integer> told = new ArrayList<>();
        for (int what = 0; what <= 3; what++) {
            told.add(x.lawTold(what));
        }
        for (int block = 0; block < x.count(0); block++) {
            for (int what = 0; what <= 4; what++) {
                told.add(x.about(block, what));
            }
        }
        for (int w : wheels) {
            told.add(w);
        }
        if (x.count(0) >= 2) {
            int round = Streets.turnedRound(x);
            told.add(x.worst());
            told.add(x.looks());
            told.add(x.lawful(round));
            for (int what = 0; what <= 2; what++) {
                told.add(x.carried(round, what));
            }
        }
        for (char letter : page.toCharArray()) {
            told.add((int) letter);
        }
        for (int what = 0; what <= 6; what++) {
            told.add(x.count(what));
        }
        return told;
    }

    private void digestOfFewBlocks() {
        edges.sentence(30, "h is 599, then for each of these numbers, in order, 31 times h, and it");
        PavedAnew x = new PavedAnew();
        edges.due("a new object", x.digest(), digestOf(0, 0, 0, 10, 1, 1, 1, 1, 1, 1, 1, 0, 0, 0, 0, 0, 0, 0));
        x.block(2, 30, 40);
        edges.due("one BLOCK: nothing that needs two", x.digest(),
                digestOf(0, 0, 0, 10, 2, 30, 40, 0, -1, 1, 1, 1, 1, 1, 1, 1, 1, 0, 0, 0, 0, 0, 1));
    }

    private void digestFromTwoBlocksOn() {
        edges.sentence(30, "with two BLOCKS and more WORST, LOOKS, whether the ORDER turned round (the last one first) is LAWFUL,"
                + " what carried() tells of it for 0 to 2");
        PavedAnew x = new PavedAnew();
        x.block(2, 30, 40);
        x.block(2, 50, 60);
        edges.due("two BLOCKS", x.digest(), digestOf(0, 0, 0, 10, 2, 30, 40, 0, -1, 2, 50, 60, 1, -1, 1, 1, 1, 1, 1, 1, 1,
                50, 1, 1, 2, 1, 1, 2, 0, 0, 0, 0, 0, 2));
        for (int blocks = 0; blocks <= 7; blocks++) {
            PavedAnew rich = Streets.rich("", blocks);
            edges.due("of " + blocks, rich.digest(), digestOf(numbersOf(rich, "ntx", 3, 7, 0, 2, 9, 5, 4)));
        }
    }

    private void digestByLaw() {
        edges.sentence(30, "what lawTold() tells for 0 to 3");
        for (String law : new String[] {"", "n", "t", "w", "m1", "ntwm9"}) {
            PavedAnew x = Streets.rich(law, 5);
            edges.due("by '" + law + "'", x.digest(), digestOf(numbersOf(x, "ntx", 3, 7, 0, 2, 9, 5, 4)));
        }
        edges.sentence(30, "letters of THE PAGE");
        PavedAnew full = Streets.withPage("~ntwm9 ABCDEFGHI");
        edges.due("16 of them", full.digest(), digestOf(numbersOf(full, "~ntwm9 ABCDEFGHI", 1, 1, 1, 1, 1, 1, 1)));
        full.blank();
        edges.due("none of them", full.digest(), new PavedAnew().digest());
    }

    private void digestWraps() {
        edges.sentence(30, "(as longs, wrapping)");
        PavedAnew x = new PavedAnew();
        for (int block = 0; block < 7; block++) {
            x.block(4, 999, 999);
            x.was(block, 999);
        }
        Streets.wheels(x, 9, 9, 9, 9, 9, 9, 9);
        List<Integer> numbers = numbersOf(x, "", 9, 9, 9, 9, 9, 9, 9);
        edges.due("at the most", x.digest(), digestOf(numbers));
        edges.due("far beyond a long", numbers.size() > 13 ? 1 : 0, 1);
    }

    private void digestChangesNothing() {
        edges.sentence(30, "what count() tells for 0 to 6");
        PavedAnew x = Streets.rich("n", 4);
        long once = x.digest();
        edges.due("told twice", x.digest(), once);
        edges.due("best() is not done by it", x.count(3), 1);
        edges.due("nothing is LAID", x.at(0), Streets.rich("n", 4).at(0));
        x.best(0);
        edges.due("a count is told", x.digest() == once ? 1 : 0, 0);
    }
}
