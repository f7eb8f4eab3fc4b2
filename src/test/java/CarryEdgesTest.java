import java.io.IOException;
import java.math.BigInteger;
import java.util.Arrays;

/** The edges that promises 20 to 22 name: what is carried, floods and looks, sentence by sentence. */
public final class CarryEdgesTest {
    private static final int LEAST = Edges.LEAST, MOST = Edges.MOST;
    private static final int OUTSIDE = Edges.OUTSIDE, STATE = Edges.STATE;
    private static final int MARKED = 4;
    private static final BigInteger TWO_TO_THE_31 = BigInteger.ONE.shiftLeft(31);

    private final Edges edges = new Edges("CarryEdgesTest");

    private CarryEdgesTest() throws IOException {
    }

    public static void main(String[] args) throws IOException {
        CarryEdgesTest t = new CarryEdgesTest();
        t.carriedByAll();
        t.fewestExchanges();
        t.halfRoundedDown();
        t.gangsByWhereTheyGo();
        t.carriedRefused();
        t.carriedChangesNothing();
        t.drawsFromTheLastPlaceDownTo1();
        t.seedsAtTheEdges();
        t.floodByTheDocument();
        t.floodTurnsWhoeverLiesThere();
        t.floodRefused();
        t.looksOfEachKind();
        t.looksRefused();
        t.edges.end(20, 22);
    }

    /** The ORDER in which the last BLOCK comes first, the others move one PLACE on. */
    private static int lastFirst(int blocks) {
        int[] order = new int[blocks];
        for (int place = 0; place < blocks; place++) {
            order[place] = (place + blocks - 1) % blocks;
        }
        return Checks.order(order);
    }

    private static int firstLast(int blocks) {
        int[] order = new int[blocks];
        for (int place = 0; place < blocks; place++) {
            order[place] = (place + 1) % blocks;
        }
        return Checks.order(order);
    }

    // ---- 20

    private void carriedByAll() {
        edges.sentence(0, "CARRIED to an ORDER: all PLACES that all BLOCKS go together.");
        for (int blocks = 2; blocks <= 7; blocks++) {
            PavedAnew x = Streets.plain("", blocks);
            edges.due("nobody goes", x.carried(Streets.inOrder(blocks), 0), 0);
            edges.due("two neighbours", x.carried(Streets.exchanged(blocks, 0, 1), 0), 2);
            edges.due("the first and the last", x.carried(Streets.exchanged(blocks, 0, blocks - 1), 0), 2 * (blocks - 1));
            edges.due("the last one first", x.carried(lastFirst(blocks), 0), 2 * (blocks - 1));
            edges.due("turned round", x.carried(Streets.turnedRound(x), 0), blocks * blocks / 2);
            x.lay(lastFirst(blocks));
            edges.due("from where they lie now", x.carried(lastFirst(blocks), 0), 0);
        }
    }

    private void fewestExchanges() {
        edges.sentence(0, "EXCHANGES: by how few exchanges of two BLOCKS it can be come to.");
        for (int blocks = 2; blocks <= 7; blocks++) {
            PavedAnew x = Streets.plain("", blocks);
            edges.due("none", x.carried(Streets.inOrder(blocks), 1), 0);
            edges.due("neighbours or not", x.carried(Streets.exchanged(blocks, 0, blocks - 1), 1), 1);
            edges.due("a ring of all", x.carried(lastFirst(blocks), 1), blocks - 1);
            edges.due("pairs", x.carried(Streets.turnedRound(x), 1), blocks / 2);
        }
        edges.due("two rings", Streets.plain("", 7).carried(Checks.order(1, 2, 0, 4, 5, 6, 3), 1), 5);
    }

    private void halfRoundedDown() {
        edges.sentence(0, "the left half (PLACES below half of all, rounded down)");
        for (int blocks = 2; blocks <= 7; blocks++) {
            int half = blocks / 2;
            PavedAnew x = Streets.plain("", blocks);
            edges.due("across the middle of " + blocks, x.carried(Streets.exchanged(blocks, half - 1, half), 2), 1);
            if (half + 1 < blocks) {
                edges.due("behind it of " + blocks, x.carried(Streets.exchanged(blocks, half, half + 1), 2), 2);
            }
            if (half >= 2) {
                edges.due("ahead of it of " + blocks, x.carried(Streets.exchanged(blocks, half - 2, half - 1), 2), 2);
            }
        }
    }

    private void gangsByWhereTheyGo() {
        edges.sentence(0, "BLOCKS that go to a PLACE in the left half");
        for (int blocks = 2; blocks <= 7; blocks++) {
            int half = blocks / 2;
            PavedAnew x = Streets.plain("", blocks);
            int left = blocks - 1 + half - 1;
            edges.due("the last one first, " + blocks, x.carried(lastFirst(blocks), 2), Math.max(left, blocks - half));
        }
        edges.sentence(0, "the greater of what both carry");
        edges.due("the left one's, of 7", Streets.plain("", 7).carried(lastFirst(7), 2), 8);
        edges.due("the right one's, of 7", Streets.plain("", 7).carried(firstLast(7), 2), 9);
        edges.due("nobody carries", Streets.plain("", 7).carried(Streets.inOrder(7), 2), 0);
    }

    private void carriedRefused() {
        edges.sentence(20, "STATE; OUTSIDE: order, what.");
        for (int blocks : new int[] {0, 1}) {
            edges.refused("with " + blocks, () -> Streets.rich("", blocks), x -> x.carried(0, 0), STATE);
            edges.refused("STATE goes first", () -> Streets.rich("", blocks), x -> x.carried(-1, 3), STATE);
        }
        for (int what : new int[] {-1, 3, LEAST, MOST}) {
            edges.refused("what " + what, () -> Streets.rich("", 4), x -> x.carried(Streets.inOrder(4), what), OUTSIDE);
            edges.refused("both", () -> Streets.rich("", 4), x -> x.carried(0, what), OUTSIDE);
        }
        for (int order : new int[] {0, -1, Streets.inOrder(3), Streets.inOrder(5), LEAST, MOST}) {
            for (int what = 0; what <= 2; what++) {
                int one = what;
                edges.refused("order " + order, () -> Streets.rich("", 4), x -> x.carried(order, one), OUTSIDE);
            }
        }
    }

    private void carriedChangesNothing() {
        edges.sentence(20, "What = 0 CARRIED, 1 EXCHANGES, 2 GANGS.");
        PavedAnew x = Streets.rich("n", 4);
        long before = x.digest();
        for (int what = 0; what <= 2; what++) {
            edges.due("LAWFUL or not", x.carried(Streets.turnedRound(x), what) >= 0 ? 1 : 0, 1);
        }
        edges.due("they stay", x.digest(), before);
    }

    // ---- 21

    private static long nextSeed(long seed) {
        return BigInteger.valueOf(1103515245L).multiply(BigInteger.valueOf(seed)).add(BigInteger.valueOf(12345L))
                .mod(TWO_TO_THE_31).longValueExact();
    }

    private static int draw(long seed, int of) {
        return (int) (seed / 65536 % of);
    }

    /** Two DRAWS for each PLACE but 0: so the SEED goes on by twice that. */
    private void drawsFromTheLastPlaceDownTo1() {
        edges.sentence(0, "for p from the last PLACE down to 1");
        for (int blocks = 2; blocks <= 7; blocks++) {
            long seed = 91;
            for (int i = 0; i < 2 * (blocks - 1); i++) {
                seed = nextSeed(seed);
            }
            edges.due("DRAWS of " + blocks, Streets.plain("", blocks).flood(91), seed);
        }
    }

    private void seedsAtTheEdges() {
        edges.sentence(0, "1103515245 times it and 12345, its rest by 2 to the 31");
        edges.due("0", Streets.plain("", 2).flood(0), 1406932606);
        edges.due("1", Streets.plain("", 2).flood(1), nextSeed(nextSeed(1)));
        edges.due("the greatest", Streets.plain("", 2).flood(MOST), nextSeed(nextSeed(MOST)));
        edges.due("one below it", Streets.plain("", 2).flood(MOST - 1), nextSeed(nextSeed(MOST - 1)));
        PavedAnew x = Streets.plain("", 7);
        int seed = 12345;
        for (int i = 0; i < 100; i++) {
            seed = x.flood(seed);
            edges.due("a SEED for the next", seed >= 0 ? 1 : 0, 1);
        }
    }

    private void floodByTheDocument() {
        edges.sentence(0, "the BLOCKS in p and in the PLACE by a DRAW of p and 1 change");
        for (int blocks = 2; blocks <= 7; blocks++) {
            for (int seed : new int[] {0, 1, 2, 3, 4, 5, 91, 65535, 65536, 1 << 30, MOST}) {
                int[] kinds = {0, 1, 2, 3, 4, 4, 0};
                compareFlood(blocks, kinds, seed);
            }
        }
    }

    private void compareFlood(int blocks, int[] kinds, int from) {
        PavedAnew x = new PavedAnew();
        int[] lie = new int[blocks];
        int[] turned = new int[blocks];
        for (int block = 0; block < blocks; block++) {
            x.block(kinds[block], 10 + block, 500 + block);
            lie[block] = block;
        }
        long seed = from;
        for (int p = blocks - 1; p >= 1; p--) {
            seed = nextSeed(seed);
            int q = draw(seed, p + 1);
            int other = lie[q];
            lie[q] = lie[p];
            lie[p] = other;
            seed = nextSeed(seed);
            turned[lie[p]] = draw(seed, 2);
        }
        edges.due("SEED then", x.flood(from), seed);
        for (int p = 0; p < blocks; p++) {
            edges.due(blocks + " by " + from + ", PLACE " + p, x.at(p), lie[p]);
            edges.due(blocks + " by " + from + ", its own PLACE", x.about(lie[p], 3), p);
            edges.due(blocks + " by " + from + ", above of " + p, x.about(p, 1), turned[p] == 1 ? 500 + p : 10 + p);
            edges.due(blocks + " by " + from + ", below of " + p, x.about(p, 2), turned[p] == 1 ? 10 + p : 500 + p);
        }
    }

    /** The words except nobody: whoever lies in p is turned, a MARKED, too; who comes to lie in PLACE 0 is not. */
    private void floodTurnsWhoeverLiesThere() {
        edges.sentence(0, "each DRAW of 2 behind that turns the one that lies in p then, if it is 1");
        int seen = 0;
        for (int kind = 0; kind <= MARKED; kind++) {
            for (int seed = 0; seed < 16; seed++) {
                long first = nextSeed(seed);
                int drawn = draw(nextSeed(first), 2);
                PavedAnew x = new PavedAnew();
                x.block(kind, 10, 20);
                x.block(kind, 10, 20);
                x.flood(seed);
                edges.due("KIND " + kind + " in PLACE 1, a DRAW of " + drawn, x.about(x.at(1), 1), drawn == 1 ? 20 : 10);
                edges.due("KIND " + kind + " in PLACE 0", x.about(x.at(0), 1), 10);
                seen |= 1 << drawn;
            }
        }
        edges.due("both DRAWS were seen", seen, 3);
        compareFlood(7, new int[] {MARKED, MARKED, MARKED, MARKED, MARKED, MARKED, MARKED}, 77);
    }

    private void floodRefused() {
        edges.sentence(21, "STATE; OUTSIDE: below 0.");
        for (int blocks : new int[] {0, 1}) {
            edges.refused("with " + blocks, () -> Streets.rich("", blocks), x -> x.flood(0), STATE);
            edges.refused("STATE goes first", () -> Streets.rich("", blocks), x -> x.flood(-1), STATE);
        }
        for (int seed : new int[] {-1, LEAST}) {
            edges.refused("seed " + seed, () -> Streets.rich("nt", 4), x -> x.flood(seed), OUTSIDE);
        }
        edges.sentence(21, "FLOOD: the SEED then.");
        PavedAnew x = Streets.plain("ntw", 3);
        edges.due("LAWFUL or not", x.flood(0) >= 0 ? 1 : 0, 1);
    }

    // ---- 22

    private void looksOfEachKind() {
        edges.sentence(0, "for each KIND one less than there are of it");
        for (int kind = 0; kind <= 4; kind++) {
            for (int blocks = 2; blocks <= 7; blocks++) {
                int[] kinds = new int[blocks];
                Arrays.fill(kinds, kind);
                edges.due(blocks + " of KIND " + kind, Streets.of("", kinds).looks(), blocks - 1);
            }
        }
        edges.due("all KINDS", Streets.of("", 0, 1, 2, 3, 4).looks(), 0);
        edges.due("an OAK and a MARKED are two KINDS", Streets.of("", 1, 4).looks(), 0);
        edges.due("two of each", Streets.of("", 1, 4, 4, 1).looks(), 2);
        edges.due("three and two and two", Streets.of("", 3, 2, 3, 0, 2, 3, 0).looks(), 4);
    }

    private void looksRefused() {
        edges.sentence(22, "LOOKS. STATE.");
        edges.refused("without a BLOCK", () -> Streets.rich("", 0), PavedAnew::looks, STATE);
        edges.refused("with one", () -> Streets.rich("", 1), PavedAnew::looks, STATE);
        PavedAnew x = Streets.rich("", 5);
        long before = x.digest();
        x.looks();
        edges.due("it changes nothing", x.digest(), before);
    }
}
