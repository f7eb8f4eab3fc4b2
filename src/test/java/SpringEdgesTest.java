import java.io.IOException;
import java.util.function.ToIntFunction;

/** The edges that promises 14 to 19 name, and what is said of ORDERS and YEARS ahead of them, sentence by sentence. */
public final class SpringEdgesTest {
    private static final int LEAST = Edges.LEAST, MOST = Edges.MOST;
    private static final int NONE = Edges.NONE, OUTSIDE = Edges.OUTSIDE, STATE = Edges.STATE;

    private final Edges edges = new Edges("SpringEdgesTest");

    private SpringEdgesTest() throws IOException {
    }

    public static void main(String[] args) throws IOException {
        SpringEdgesTest t = new SpringEdgesTest();
        t.fewerThanTwo();
        t.fewerThanTwoByAnImage();
        t.laidIsAnOrder();
        t.laidAsTTells();
        t.worstOfALaying();
        t.noOrderOfAllBlocks();
        t.layRefused();
        t.noTwoThatLayTogether();
        t.twinsBesideTwins();
        t.lawfulByHowTheyLieNow();
        t.lawfulByTheLawOfNow();
        t.lawfulRefused();
        t.aYearByKind();
        t.nineHundredNinetyNineAtMost();
        t.oneToNinetyNineYears();
        t.worstOfTheHeadsAbove();
        t.bestIsTheLeastWorst();
        t.bestOfLikeOnes();
        t.bestByTheLaw();
        t.noneIsLawful();
        t.bestRefused();
        t.howManyAreLawful();
        t.fortyTimesTogether();
        t.whatDoesNotCount();
        t.edges.end(14, 19);
    }

    private void refusedWithFew(int promise, String call, ToIntFunction<PavedAnew> calling) {
        edges.sentence(promise, "STATE");
        edges.refused(call + " without a BLOCK", () -> Streets.rich("", 0), calling, STATE);
        edges.refused(call + " with one BLOCK", () -> Streets.rich("", 1), calling, STATE);
    }

    /** Each with arguments that are OUTSIDE, too, where there are such: STATE is told first. */
    private void fewerThanTwo() {
        edges.sentence(0, "---- springs (STATE: fewer than two BLOCKS).");
        edges.due("two are enough", Streets.plain("", 2).worst(), 0);
        refusedWithFew(14, "lay(0)", x -> x.lay(0));
        refusedWithFew(14, "lay(-1)", x -> x.lay(-1));
        refusedWithFew(15, "lawful(0)", x -> x.lawful(0));
        refusedWithFew(15, "lawful(8)", x -> x.lawful(8));
        refusedWithFew(16, "years(1)", x -> x.years(1));
        refusedWithFew(16, "years(0)", x -> x.years(0));
        refusedWithFew(17, "worst()", PavedAnew::worst);
        refusedWithFew(18, "best(0)", x -> x.best(0));
        refusedWithFew(18, "best(2)", x -> x.best(2));
        refusedWithFew(19, "howMany()", PavedAnew::howMany);
    }

    private void fewerThanTwoByAnImage() {
        edges.sentence(0, "STATE: fewer than two BLOCKS");
        PavedAnew x = Streets.plain("", 1);
        x.image();
        x.block(0, 7, 0);
        edges.due("two", x.worst(), 7);
        x.restore();
        edges.due("one again", x.worst(), STATE);
        edges.due("laid", x.lay(8), STATE);
        x.block(0, 9, 0);
        edges.due("two again", x.worst(), 9);
    }

    // ---- 14

    private void laidIsAnOrder() {
        edges.sentence(0, "told as a number whose octal figures, the lowest first, are the BLOCKS in PLACES 0, 1, ..");
        int[][] orders = {{0, 1}, {1, 0}, {1, 2, 0}, {0, 3, 1, 2}, {6, 0, 5, 1, 4, 2, 3}, {6, 5, 4, 3, 2, 1, 0}, {0, 6, 5, 4, 3, 2, 1}};
        for (int[] order : orders) {
            PavedAnew x = Streets.plain("", order.length);
            edges.due("LAID", x.lay(Checks.order(order)), 0);
            for (int place = 0; place < order.length; place++) {
                edges.due("PLACE " + place, x.at(place), order[place]);
                edges.due("PLACE of " + order[place], x.about(order[place], 3), place);
            }
        }
        edges.due("1 is: BLOCK 1, then 0", Streets.plain("", 2).lay(1), 0);
        edges.due("8 is: BLOCK 0, then 1", Streets.plain("", 2).lay(8), 0);
    }

    private void laidAsTTells() {
        edges.sentence(0, "When one is LAID, each BLOCK is turned as \"t\" tells.");
        for (String law : new String[] {"", "n", "w", "m1", "t", "ntwm9"}) {
            boolean turns = law.contains("t");
            PavedAnew x = Streets.underLaw(law);
            for (int block = 0; block < 5; block++) {
                x.block(block == 3 ? 2 : block, 100 + block, 200 + block);
            }
            x.lay(Checks.order(0, 2, 4, 1, 3));
            for (int block = 0; block < 5; block++) {
                int up = turns && block != 4 ? 200 : 100;
                edges.due("above of " + block + " by '" + law + "'", x.about(block, 1), up + block);
                edges.due("below of " + block + " by '" + law + "'", x.about(block, 2), 300 - up + block);
            }
        }
        edges.sentence(0, "then perhaps \"t\" (each BLOCK that is not MARKED is turned when it is laid)");
        PavedAnew stay = Streets.worn("t", 3, 4);
        stay.lay(Checks.order(0, 1));
        edges.due("one that stays in its PLACE, too", stay.about(0, 1), 0);
    }

    private void worstOfALaying() {
        edges.sentence(14, "An ORDER is LAID: WORST then.");
        PavedAnew x = Streets.underLaw("t");
        x.block(0, 900, 10);
        x.block(4, 20, 999);
        x.block(1, 30, 5);
        edges.due("of the HEADS above then", x.lay(Checks.order(2, 0, 1)), 20);
        edges.due("and once more", x.lay(Checks.order(2, 0, 1)), 900);
    }

    /** For each number of BLOCKS: a BLOCK twice, one that is none, a figure too few and too many, below 0. */
    private void noOrderOfAllBlocks() {
        edges.sentence(14, "OUTSIDE: it is no ORDER of all BLOCKS");
        for (int blocks = 2; blocks <= 7; blocks++) {
            int all = blocks;
            int good = Streets.inOrder(blocks);
            int last = 3 * (blocks - 1);
            int[] wrong = {0, good - 1, good + 1, good & ~7 | 7, good | 7 << last, good & ~(7 << last),
                good + (1 << last), good | 1 << 3 * blocks, good | 1 << 30, good | LEAST, -good, -1, LEAST, MOST};
            edges.due("of " + blocks, Streets.plain("", blocks).lay(good), 0);
            for (int order : wrong) {
                edges.refused(Integer.toOctalString(order) + " of " + blocks,
                        () -> Streets.rich("", all), x -> x.lay(order), OUTSIDE);
                edges.due("lawful " + order, Streets.plain("", blocks).lawful(order), OUTSIDE);
                edges.due("carried " + order, Streets.plain("", blocks).carried(order, 0), OUTSIDE);
            }
        }
    }

    private void layRefused() {
        edges.sentence(14, "STATE; OUTSIDE: it is no ORDER of all BLOCKS; STATE: it is not LAWFUL.");
        edges.refused("as they lie, by n", () -> Streets.plain("n", 4), x -> x.lay(Checks.order(0, 1, 2, 3)), STATE);
        edges.refused("turned round, by n", () -> Streets.rich("n", 5), x -> x.lay(Streets.turnedRound(x)), STATE);
        edges.refused("by t and w", () -> Streets.of("tw", 3, 0, 3), x -> x.lay(Checks.order(0, 1, 2)), STATE);
        edges.refused("OUTSIDE goes ahead", () -> Streets.plain("n", 4), x -> x.lay(Checks.order(0, 1, 2, 2)), OUTSIDE);
        edges.due("a LAWFUL one", Streets.plain("n", 4).lay(Checks.order(1, 3, 0, 2)), 0);
    }

    // ---- 15

    private void noTwoThatLayTogether() {
        edges.sentence(0, "NEW: no two BLOCKS may lie side by side that did before");
        PavedAnew x = Streets.plain("n", 4);
        edges.due("all new", x.lawful(Checks.order(1, 3, 0, 2)), 1);
        edges.due("in the first PLACES", x.lawful(Checks.order(0, 1, 3, 2)), 0);
        edges.due("the other way round", x.lawful(Checks.order(1, 0, 3, 2)), 0);
        edges.due("in the last PLACES alone", x.lawful(Checks.order(0, 3, 1, 2)), 0);
        edges.due("in the last PLACES, the other way round", x.lawful(Checks.order(0, 3, 2, 1)), 0);
        edges.due("in the middle alone", x.lawful(Checks.order(0, 2, 1, 3)), 0);
        edges.due("the first and the last one lay not together", x.lawful(Checks.order(2, 0, 3, 1)), 1);
        edges.due("two never", Streets.plain("n", 2).lawful(Checks.order(1, 0)), 0);
        edges.due("three never", Streets.plain("n", 3).lawful(Checks.order(0, 2, 1)), 0);
        edges.due("without n", Streets.plain("tw", 4).lawful(Checks.order(0, 1, 2, 3)), 1);
    }

    private void twinsBesideTwins() {
        edges.sentence(0, "each TWIN must lie beside another TWIN");
        PavedAnew x = Streets.of("w", 3, 0, 3, 1);
        edges.due("in the first PLACES", x.lawful(Checks.order(0, 2, 1, 3)), 1);
        edges.due("in the last PLACES", x.lawful(Checks.order(1, 3, 2, 0)), 1);
        edges.due("in the middle", x.lawful(Checks.order(1, 0, 2, 3)), 1);
        edges.due("one between them", x.lawful(Checks.order(0, 1, 2, 3)), 0);
        edges.due("at both ends", x.lawful(Checks.order(0, 1, 3, 2)), 0);
        edges.due("one TWIN alone", Streets.of("w", 3, 0).lawful(8), 0);
        edges.due("one alone, behind", Streets.of("w", 0, 3).lawful(8), 0);
        edges.due("no TWIN", Streets.of("w", 1, 4).lawful(8), 1);
        edges.due("two TWINS", Streets.of("w", 3, 3).lawful(8), 1);
        PavedAnew three = Streets.of("w", 3, 3, 3, 0);
        edges.due("three in a row", three.lawful(Checks.order(0, 1, 2, 3)), 1);
        edges.due("two and one", three.lawful(Checks.order(0, 1, 3, 2)), 0);
        edges.due("one and two", three.lawful(Checks.order(0, 3, 1, 2)), 0);
        edges.due("two and two", Streets.of("w", 3, 3, 0, 3, 3).lawful(Streets.inOrder(5)), 1);
        edges.due("without w", Streets.of("nt", 3, 0, 0, 0).lawful(Checks.order(1, 3, 0, 2)), 1);
    }

    private void lawfulByHowTheyLieNow() {
        edges.sentence(0, "LAWFUL is an ORDER, if it is as \"n\" and \"w\" tell, by how they lie now.");
        PavedAnew x = Streets.plain("n", 4);
        x.lay(Checks.order(1, 3, 0, 2));
        edges.due("as they lie now", x.lawful(Checks.order(1, 3, 0, 2)), 0);
        edges.due("as they lay before", x.lawful(Checks.order(0, 1, 2, 3)), 1);
        edges.due("by both: n alone", Streets.of("nw", 3, 0, 3, 0).lawful(Checks.order(1, 3, 0, 2)), 1);
        edges.due("by both: w is not so", Streets.of("nw", 3, 3, 0, 0).lawful(Checks.order(1, 3, 0, 2)), 0);
        edges.due("by both: n is not so", Streets.of("nw", 3, 3, 0, 0).lawful(Checks.order(0, 1, 3, 2)), 0);
        edges.sentence(15, "Whether an ORDER is LAWFUL: 1, 0.");
        PavedAnew y = Streets.rich("", 4);
        long before = y.digest();
        edges.due("it is", y.lawful(Streets.inOrder(4)), 1);
        edges.due("nothing is LAID", y.digest(), before);
    }

    /** What was found by an earlier LAW, or of other BLOCKS, is of no weight. */
    private void lawfulByTheLawOfNow() {
        edges.sentence(5, "THE PAGE is read as THE LAW (another one is gone)");
        PavedAnew x = Streets.of("nw", 3, 0, 3, 0);
        edges.due("by nw", x.howMany(), 2);
        x.law();
        edges.due("by none", x.howMany(), 24);
        edges.due("the first by none", x.best(1), Checks.order(0, 1, 2, 3));
        Streets.write(x, "w");
        x.law();
        edges.due("by w", x.howMany(), 12);
        x.thief(2);
        edges.due("one TWIN is left", x.howMany(), 0);
        x.thief(0);
        edges.due("no TWIN is left", x.howMany(), 2);
        edges.due("no TWIN, the first", x.best(1), Checks.order(0, 1));
        PavedAnew strict = Streets.plain("", 4);
        edges.due("by none first", strict.howMany(), 24);
        Streets.write(strict, "n");
        strict.law();
        edges.due("then by n", strict.howMany(), 2);
        edges.due("the first by n", strict.best(1), Checks.order(1, 3, 0, 2));
        strict.lay(Checks.order(1, 3, 0, 2));
        edges.due("the first by how they lie now", strict.best(1), Checks.order(0, 1, 2, 3));
    }

    private void lawfulRefused() {
        edges.sentence(15, "STATE; OUTSIDE.");
        for (int order : new int[] {0, -1, Streets.inOrder(2), Streets.inOrder(4), LEAST, MOST}) {
            edges.refused("order " + order, () -> Streets.rich("nw", 3), x -> x.lawful(order), OUTSIDE);
        }
    }

    // ---- 16

    private void aYearByKind() {
        edges.sentence(0, "of an OAK and a MARKED by half of that (rounded up), of a SPLIT by twice that; others that");
        int[] half = {0, 1, 1, 2, 2, 3, 3, 4, 4, 5};
        for (int wheels = 0; wheels <= 9; wheels++) {
            PavedAnew x = Streets.of("", 0, 1, 2, 3, 4);
            Streets.wheels(x, wheels, wheels, wheels, wheels, wheels);
            int[] want = {wheels, half[wheels], 2 * wheels, wheels, half[wheels]};
            edges.due("WORST by " + wheels, x.years(1), 2 * wheels);
            for (int kind = 0; kind < 5; kind++) {
                edges.due("KIND " + kind + " by " + wheels, x.about(kind, 1), want[kind]);
                edges.due("its other HEAD", x.about(kind, 2), 0);
            }
        }
        edges.sentence(0, "the HEAD above of each BLOCK wears by WHEELS where it lies");
        PavedAnew moved = Streets.plain("", 3);
        Streets.wheels(moved, 2, 7, 0);
        moved.lay(Checks.order(1, 2, 0));
        edges.due("WORST", moved.years(1), 7);
        int[] want = {0, 2, 7};
        for (int block = 0; block < 3; block++) {
            edges.due("BLOCK " + block, moved.about(block, 1), want[block]);
        }
    }

    private void nineHundredNinetyNineAtMost() {
        edges.sentence(0, "999 at most");
        int[][] cases = {{0, 989, 998}, {0, 990, 999}, {0, 991, 999}, {0, 999, 999}, {1, 993, 998}, {1, 994, 999}, {1, 995, 999},
            {2, 980, 998}, {2, 981, 999}, {2, 982, 999}, {2, 998, 999}, {3, 998, 999}, {4, 994, 999}, {4, 999, 999}};
        for (int[] one : cases) {
            PavedAnew x = new PavedAnew();
            x.block(one[0], one[1], 0);
            x.block(0, 0, 999);
            Streets.wheels(x, 9, 0);
            edges.due("KIND " + one[0] + " from " + one[1], x.years(1), one[2]);
            edges.due("the BLOCK", x.about(0, 1), one[2]);
        }
        PavedAnew y = Streets.worn("", 997, 0);
        edges.due("998", y.years(1), 998);
        edges.due("999", y.years(1), 999);
        edges.due("no more", y.years(99), 999);
    }

    private void oneToNinetyNineYears() {
        edges.sentence(16, "So many YEARS (1 to 99) go by: WORST then. STATE; OUTSIDE.");
        edges.due("1", Streets.plain("", 2).years(1), 1);
        edges.due("2", Streets.plain("", 2).years(2), 2);
        edges.due("98", Streets.plain("", 2).years(98), 98);
        edges.due("99", Streets.plain("", 2).years(99), 99);
        for (int years : new int[] {0, 100, -1, LEAST, MOST}) {
            edges.refused("years " + years, () -> Streets.rich("", 3), x -> x.years(years), OUTSIDE);
        }
        PavedAnew oak = Streets.of("", 1, 4);
        edges.due("rounded up in each YEAR", oak.years(99), 99);
        Streets.wheels(oak, 0, 0);
        edges.due("without WHEELS nothing is worn", oak.years(99), 99);
    }

    // ---- 17

    private void worstOfTheHeadsAbove() {
        edges.sentence(0, "WORST is the greatest wear of a HEAD above.");
        edges.due("none is worn", Streets.plain("", 2).worst(), 0);
        for (int worst = 0; worst < 7; worst++) {
            int[] wear = new int[7];
            wear[worst] = 999;
            edges.due("BLOCK " + worst, Streets.worn("", wear).worst(), 999);
        }
        edges.sentence(17, "WORST. STATE.");
        PavedAnew x = new PavedAnew();
        x.block(0, 5, 999);
        x.block(0, 7, 998);
        edges.due("the others do not count", x.worst(), 7);
        edges.due("nothing is changed", x.worst(), 7);
    }

    // ---- 18

    private void bestIsTheLeastWorst() {
        edges.sentence(0, "of all LAWFUL ORDERS that by which, LAID and worn for a YEAR, WORST is least");
        PavedAnew x = Streets.worn("", 10, 10, 12);
        Streets.wheels(x, 9, 0, 8);
        edges.due("WORST behind a YEAR", x.best(0), 19);
        edges.due("the ORDER", x.best(1), Checks.order(0, 2, 1));
        PavedAnew high = Streets.worn("", 999, 995, 990);
        Streets.wheels(high, 9, 9, 9);
        edges.due("999 at most", high.best(0), 999);
        PavedAnew none = Streets.plain("", 7);
        Streets.wheels(none, 0, 0, 0, 0, 0, 0, 0);
        edges.due("nothing at all", none.best(0), 0);
        PavedAnew kinds = Streets.of("", 0, 1, 2);
        Streets.wheels(kinds, 9, 5, 2);
        edges.due("each by its KIND", kinds.best(0), 5);
        edges.due("the OAK where most WHEELS go", kinds.best(1), Checks.order(1, 0, 2));
        edges.sentence(18, "what = 0 WORST behind a YEAR, 1 the ORDER");
        x.turn(2);
        x.best(1);
        edges.due("nothing is LAID", x.at(1), 1);
        edges.due("nothing is worn", x.about(0, 1), 10);
        edges.due("nothing is turned", x.about(2, 2), 12);
        edges.due("each is counted", x.count(3), 3);
    }

    private void bestOfLikeOnes() {
        edges.sentence(0, "of like ones the first (by PLACE 0, then 1, ..)");
        for (int blocks = 2; blocks <= 7; blocks++) {
            edges.due("all alike, " + blocks, Streets.plain("", blocks).best(1), Streets.inOrder(blocks));
            PavedAnew moved = Streets.plain("", blocks);
            moved.flood(5);
            edges.due("by numbers, not by how they lie", moved.best(1), Streets.inOrder(blocks));
        }
        PavedAnew x = Streets.worn("", 0, 50, 0, 0);
        Streets.wheels(x, 3, 3, 2, 2);
        edges.due("the worn one in a better PLACE, the first such", x.best(1), Checks.order(0, 2, 1, 3));
        edges.due("the first LAWFUL one", Streets.plain("n", 4).best(1), Checks.order(1, 3, 0, 2));
        edges.due("of five", Streets.plain("n", 5).best(1), Checks.order(0, 2, 4, 1, 3));
        PavedAnew high = Streets.worn("n", 999, 0, 0, 0);
        edges.due("the first LAWFUL one, where none is better than 999", high.best(1), Checks.order(1, 3, 0, 2));
        edges.due("of 999", high.best(0), 999);
    }

    private void bestByTheLaw() {
        edges.sentence(18, "BEST");
        PavedAnew t = Streets.underLaw("t");
        t.block(0, 900, 10);
        t.block(4, 50, 0);
        t.block(0, 0, 49);
        Streets.wheels(t, 2, 1, 1);
        edges.due("the HEADS that come up", t.best(0), 50 + 1);
        edges.due("the first by these", t.best(1), Checks.order(0, 1, 2));
        t.turn(0);
        edges.due("turned, so that the worn one comes up", t.best(0), 901);
        PavedAnew w = Streets.of("w", 3, 0, 3, 3);
        edges.due("TWINS together", w.best(1), Checks.order(0, 2, 3, 1));
        PavedAnew pairs = Streets.underLaw("w");
        pairs.block(3, 0, 0);
        pairs.block(0, 50, 0);
        for (int twin = 2; twin < 5; twin++) {
            pairs.block(3, 0, 0);
        }
        Streets.wheels(pairs, 9, 9, 0, 9, 9);
        edges.due("TWINS in two pairs", pairs.best(1), Checks.order(0, 2, 1, 3, 4));
        edges.due("by which WORST is least", pairs.best(0), 50);
    }

    private void noneIsLawful() {
        edges.sentence(18, "NONE: no ORDER is LAWFUL.");
        for (int what = 0; what <= 1; what++) {
            edges.due("two, by n", Streets.plain("n", 2).best(what), NONE);
            edges.due("three, by n", Streets.plain("n", 3).best(what), NONE);
            edges.due("four, by n", Streets.plain("n", 4).best(what) == NONE ? 1 : 0, 0);
            edges.due("one TWIN, by w", Streets.of("w", 0, 0, 0, 3, 0, 0, 0).best(what), NONE);
            edges.due("by both", Streets.of("nw", 3, 3, 0, 0).best(what), NONE);
        }
    }

    private void bestRefused() {
        edges.sentence(18, "STATE; OUTSIDE; STATE: best(), howMany() were done 40 times together.");
        for (int what : new int[] {-1, 2, LEAST, MOST}) {
            edges.refused("what " + what, () -> Streets.rich("", 3), x -> x.best(what), OUTSIDE);
            edges.refused("OUTSIDE goes ahead, " + what, () -> searched(40), x -> x.best(what), OUTSIDE);
        }
        edges.refused("40 were done", () -> searched(40), x -> x.best(0), STATE);
        edges.refused("40 were done, the ORDER", () -> searched(40), x -> x.best(1), STATE);
    }

    /** An object on which best() and howMany() were done so often, by turns. */
    private static PavedAnew searched(int times) {
        PavedAnew x = Streets.worn("", 4, 5, 6);
        for (int i = 0; i < times; i++) {
            if (i % 3 == 2) {
                x.howMany();
            } else {
                x.best(i % 3);
            }
        }
        return x;
    }

    // ---- 19

    private void howManyAreLawful() {
        edges.sentence(19, "HOW MANY.");
        int[] all = {2, 6, 24, 120, 720, 5040};
        int[] fresh = {0, 0, 2, 14, 90, 646};
        for (int blocks = 2; blocks <= 7; blocks++) {
            edges.due("of " + blocks, Streets.plain("", blocks).howMany(), all[blocks - 2]);
            edges.due("by n of " + blocks, Streets.plain("n", blocks).howMany(), fresh[blocks - 2]);
        }
        edges.due("one TWIN", Streets.of("w", 3, 0, 0).howMany(), 0);
        edges.due("two TWINS", Streets.of("w", 3, 0, 3).howMany(), 4);
        edges.due("seven TWINS", Streets.of("w", 3, 3, 3, 3, 3, 3, 3).howMany(), 5040);
        edges.due("four TWINS and one: in a row or two pairs", Streets.of("w", 3, 3, 3, 3, 0).howMany(), 72);
    }

    private void fortyTimesTogether() {
        edges.sentence(19, "STATE, as best().");
        edges.refused("40 were done", () -> searched(40), PavedAnew::howMany, STATE);
        edges.sentence(18, "STATE: best(), howMany() were done 40 times together");
        for (int done : new int[] {38, 39}) {
            edges.due("best, behind " + done, searched(done).best(0), 7);
            edges.due("howMany, behind " + done, searched(done).howMany(), 6);
        }
        PavedAnew best = Streets.plain("", 2);
        PavedAnew howMany = Streets.plain("", 2);
        for (int i = 1; i <= 40; i++) {
            edges.due("best " + i, best.best(0), 1);
            edges.due("howMany " + i, howMany.howMany(), 2);
            edges.due("told by count()", best.count(3), i);
        }
        edges.due("best 41", best.best(0), STATE);
        edges.due("then howMany, too", best.howMany(), STATE);
        edges.due("howMany 41", howMany.howMany(), STATE);
        edges.due("then best, too", howMany.best(1), STATE);
        edges.due("told by count()", howMany.count(3), 40);
    }

    private void whatDoesNotCount() {
        edges.sentence(18, "best(), howMany() were done 40 times together");
        PavedAnew x = Streets.plain("n", 1);
        x.image();
        for (int i = 0; i < 45; i++) {
            x.best(0);
            x.howMany();
        }
        x.block(0, 0, 0);
        for (int i = 0; i < 45; i++) {
            x.best(2);
        }
        edges.due("those that are refused", x.count(3), 0);
        for (int i = 0; i < 20; i++) {
            edges.due("NONE does", x.best(i % 2), NONE);
            edges.due("0 does", x.howMany(), 0);
        }
        edges.due("40 in all", x.best(0), STATE);
        x.restore();
        edges.due("an IMAGE brings none back", x.count(3), 40);
        edges.due("one BLOCK, and OUTSIDE: STATE goes first", x.best(2), STATE);
        x.block(0, 0, 0);
        edges.due("still none", x.howMany(), STATE);
    }
}
