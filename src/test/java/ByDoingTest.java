import java.io.IOException;
import java.util.ArrayList;
import java.util.Arrays;
import java.util.List;
import java.util.Random;

/**
 * What the terms of sections 2 and 3 say in one word, done step by step with the other calls: a BEST ORDER by
 * laying each one and waiting for a YEAR, SPRINGS by spring after spring, LAST by wearing each ORDER.
 */
public final class ByDoingTest {
    private static final int NONE = Edges.NONE, STATE = Edges.STATE;
    private static final String[] LAWS = {"", "n", "t", "w", "nt", "nw", "tw", "ntw", "m1", "tm1", "ntwm1", "nm2"};

    private final Edges edges = new Edges("ByDoingTest");
    private final Random draws = new Random(9);

    private ByDoingTest() throws IOException {
    }

    public static void main(String[] args) throws IOException {
        ByDoingTest t = new ByDoingTest();
        t.bestByLayingEach();
        t.howManyByAskingEach();
        t.exchangesByExchanging();
        t.carriedByWalking();
        t.looksByLooking();
        t.lastByWearing();
        t.springsBySprings();
        t.thiefByNeverHavingHadIt();
        t.edges.end(1, 0);
    }

    /** All that an IMAGE keeps, as the calls tell it: a STREET can be made of it once more. */
    private static final class Told {
        final int[][] blocks;
        final int[] wheels;
        final int order;

        Told(int[][] blocks, int[] wheels, int order) {
            this.blocks = blocks;
            this.wheels = wheels;
            this.order = order;
        }

        PavedAnew made(String law) {
            PavedAnew x = new PavedAnew();
            for (int[] block : blocks) {
                x.block(block[0], block[1], block[2]);
            }
            Streets.wheels(x, wheels);
            x.lay(order);
            Streets.write(x, law);
            x.law();
            return x;
        }

        int[] yearAgo() {
            int[] was = new int[blocks.length];
            for (int i = 0; i < was.length; i++) {
                was[i] = blocks[i][3];
            }
            return was;
        }
    }

    /** BLOCKS that come near to some hundreds of wear, so that likes, TWINS and BURNT ones are there to be seen. */
    private Told drawn(int size) {
        int[][] blocks = new int[size][];
        for (int i = 0; i < size; i++) {
            int near = 100 * draws.nextInt(3);
            int kind = draws.nextInt(3) == 0 ? 3 : draws.nextInt(5);
            blocks[i] = new int[] {kind, near + draws.nextInt(12) + 88, near + draws.nextInt(20) + 90, NONE};
        }
        int[] wheels = new int[7];
        for (int i = 0; i < 7; i++) {
            wheels[i] = draws.nextInt(10);
        }
        List<Integer> all = ordersOf(size);
        return new Told(blocks, wheels, all.get(draws.nextInt(all.size())));
    }

    /** All ORDERS of so many BLOCKS, by PLACE 0, then 1. */
    private static List<Integer> ordersOf(int size) {
        List<Integer> all = new ArrayList<>();
        addOrders(new int[size], 0, all);
        return all;
    }

    private static void addOrders(int[] order, int place, List<Integer> all) {
        if (place == order.length) {
            all.add(Checks.order(order));
            return;
        }
        for (int block = 0; block < order.length; block++) {
            order[place] = block;
            boolean free = true;
            for (int before = 0; before < place; before++) {
                free &= order[before] != block;
            }
            if (free) {
                addOrders(order, place + 1, all);
            }
        }
    }

    private static int[] rowOf(int order, int size) {
        int[] row = new int[size];
        for (int place = 0; place < size; place++) {
            row[place] = order >> 3 * place & 7;
        }
        return row;
    }

    private void bestByLayingEach() {
        edges.sentence(0, "of all LAWFUL ORDERS that by which, LAID and worn for a YEAR, WORST is least, of like ones the first");
        for (String law : LAWS) {
            for (int size = 2; size <= 5; size++) {
                for (int turn = 0; turn < 6; turn++) {
                    Told told = drawn(size);
                    int least = NONE;
                    int first = NONE;
                    for (int order : ordersOf(size)) {
                        PavedAnew x = told.made(law);
                        int worst = x.lay(order) == STATE ? NONE : x.years(1);
                        if (worst != NONE && (least == NONE || worst < least)) {
                            least = worst;
                            first = order;
                        }
                    }
                    edges.due("WORST of " + size + " by '" + law + "'", told.made(law).best(0), least);
                    edges.due("the ORDER of " + size + " by '" + law + "'", told.made(law).best(1), first);
                }
            }
        }
    }

    private void howManyByAskingEach() {
        edges.sentence(0, "HOW MANY are LAWFUL.");
        for (String law : LAWS) {
            for (int size = 2; size <= 6; size++) {
                Told told = drawn(size);
                int lawful = 0;
                int laid = 0;
                for (int order : ordersOf(size)) {
                    PavedAnew x = told.made(law);
                    lawful += x.lawful(order);
                    laid += x.lay(order) == STATE ? 0 : 1;
                }
                edges.due("of " + size + " by '" + law + "'", told.made(law).howMany(), lawful);
                edges.due("those can be LAID, of " + size + " by '" + law + "'", laid, lawful);
            }
        }
    }

    /** From how they lie, by each exchange of two BLOCKS, as far as none is new. */
    private void exchangesByExchanging() {
        edges.sentence(0, "EXCHANGES: by how few exchanges of two BLOCKS it can be come to.");
        for (int size = 2; size <= 6; size++) {
            Told told = drawn(size);
            int[] few = new int[1 << 3 * size];
            Arrays.fill(few, NONE);
            List<Integer> reached = new ArrayList<>();
            few[told.order] = 0;
            reached.add(told.order);
            for (int i = 0; i < reached.size(); i++) {
                int from = reached.get(i);
                for (int p = 0; p < size; p++) {
                    for (int q = 0; q < p; q++) {
                        int to = exchanged(from, size, p, q);
                        if (few[to] == NONE) {
                            few[to] = few[from] + 1;
                            reached.add(to);
                        }
                    }
                }
            }
            for (int order : reached) {
                edges.due(size + " BLOCKS to " + Integer.toOctalString(order), told.made("").carried(order, 1), few[order]);
            }
            edges.due("all ORDERS were reached", reached.size(), ordersOf(size).size());
        }
    }

    private static int exchanged(int order, int size, int p, int q) {
        int[] row = rowOf(order, size);
        int block = row[p];
        row[p] = row[q];
        row[q] = block;
        return Checks.order(row);
    }

    /** Each BLOCK walks PLACE by PLACE from where about() says it lies to where at() says it lies, once it is LAID. */
    private void carriedByWalking() {
        edges.sentence(0, "are carried by the one, the others by the other one");
        for (int size = 2; size <= 5; size++) {
            Told told = drawn(size);
            for (int order : ordersOf(size)) {
                PavedAnew x = told.made("");
                int[] from = new int[size];
                for (int block = 0; block < size; block++) {
                    from[block] = x.about(block, 3);
                }
                int all = x.carried(order, 0);
                int greater = x.carried(order, 2);
                x.lay(order);
                int left = walked(from, x, 0, size / 2);
                int right = walked(from, x, size / 2, size);
                String name = size + " BLOCKS to " + Integer.toOctalString(order);
                edges.due("all, " + name, all, left + right);
                edges.due("the greater, " + name, greater, Math.max(left, right));
            }
        }
    }

    private static int walked(int[] from, PavedAnew laid, int first, int behind) {
        int way = 0;
        for (int place = first; place < behind; place++) {
            way += Math.abs(from[laid.at(place)] - place);
        }
        return way;
    }

    /** The fewest looks at the worst: of BLOCKS alike one looks under any, sees who it is, and one less is left. */
    private static int looksAtWorst(int[] left) {
        boolean known = true;
        for (int some : left) {
            known &= some <= 1;
        }
        if (known) {
            return 0;
        }
        int fewest = Integer.MAX_VALUE;
        for (int kind = 0; kind < left.length; kind++) {
            if (left[kind] > 0) {
                left[kind]--;
                fewest = Math.min(fewest, 1 + looksAtWorst(left));
                left[kind]++;
            }
        }
        return fewest;
    }

    private void looksByLooking() {
        edges.sentence(0, "the fewest looks that are enough, whatever is seen, if one knows just which of the PLACES has which KIND");
        for (int turn = 0; turn < 60; turn++) {
            int size = 2 + turn % 6;
            Told told = drawn(size);
            int[] ofKind = new int[5];
            for (int[] block : told.blocks) {
                ofKind[block[0]]++;
            }
            edges.due(size + " BLOCKS", told.made("").looks(), looksAtWorst(ofKind));
        }
    }

    /** Each ORDER is LAID with the HEADS of a YEAR ago; what is not known is not compared. */
    private void lastByWearing() {
        edges.sentence(0, "LAST: ORDERS that, worn for a YEAR as they lay then, give the wear of today");
        int found = 0;
        for (int turn = 0; turn < 120; turn++) {
            Told then = drawn(2 + turn % 4);
            int size = then.blocks.length;
            for (int i = 0; i < 7; i++) {
                then.wheels[i] = turn % 3 == 0 ? then.wheels[i] : 3 + then.wheels[i] % 2;
            }
            Told now = aYearLater(then, turn);
            List<Integer> fit = new ArrayList<>();
            for (int order : ordersOf(size)) {
                if (gives(now, order)) {
                    fit.add(order);
                }
            }
            found += fit.size();
            compareLast(now, fit);
        }
        edges.due("some were found", found > 100 ? 1 : 0, 1);
    }

    private Told aYearLater(Told then, int turn) {
        PavedAnew x = then.made("");
        x.years(1);
        int[][] blocks = new int[then.blocks.length][];
        for (int i = 0; i < blocks.length; i++) {
            boolean known = draws.nextInt(5) > 0;
            int was = then.blocks[i][1] + (turn % 7 == 0 ? draws.nextInt(2) : 0);
            blocks[i] = new int[] {then.blocks[i][0], x.about(i, 1), x.about(i, 2), known ? was : NONE};
        }
        return new Told(blocks, then.wheels, Streets.inOrder(blocks.length));
    }

    private static boolean gives(Told now, int order) {
        PavedAnew x = new PavedAnew();
        for (int[] block : now.blocks) {
            x.block(block[0], Math.max(0, block[3]), 0);
        }
        Streets.wheels(x, now.wheels);
        x.lay(order);
        x.years(1);
        boolean same = true;
        for (int i = 0; i < now.blocks.length; i++) {
            same &= now.blocks[i][3] == NONE || x.about(i, 1) == now.blocks[i][1];
        }
        return same;
    }

    private void compareLast(Told now, List<Integer> fit) {
        int size = now.blocks.length;
        PavedAnew x = now.made("ntw");
        Streets.was(x, now.yearAgo());
        edges.due("how many", x.last(0), fit.size());
        edges.due("the first one", x.last(1), fit.isEmpty() ? NONE : fit.get(0));
        for (int block = 0; block < size; block++) {
            int sure = NONE;
            for (int place = 0; place < size; place++) {
                boolean always = !fit.isEmpty();
                for (int order : fit) {
                    always &= (order >> 3 * place & 7) == block;
                }
                sure = always ? place : sure;
            }
            edges.due("SURE of " + block, x.sure(block), sure);
        }
    }

    /** A SPRING by the calls best(), lay() and years(); then a STREET anew in which new BLOCKS lie for those BURNT. */
    private void springsBySprings() {
        edges.sentence(26, "SPRINGS: what = 0 BOUGHT, 1 the first SPRING (NONE), 2 WORST in the end.");
        int boughtInAll = 0;
        for (String law : LAWS) {
            for (int turn = 0; turn < 12; turn++) {
                Told told = drawn(2 + turn % 6);
                PavedAnew asked = told.made(law);
                int bought = 0;
                int first = NONE;
                Told lies = told;
                for (int spring = 1; spring <= 12; spring++) {
                    PavedAnew x = aSpring(lies, law);
                    int worn = 100 * x.lawTold(3);
                    int burnt = 0;
                    int[][] blocks = new int[lies.blocks.length][];
                    for (int i = 0; i < blocks.length; i++) {
                        boolean burns = x.about(i, 1) >= worn && x.about(i, 2) >= worn;
                        burnt += burns ? 1 : 0;
                        blocks[i] = new int[] {x.about(i, 0), burns ? 0 : x.about(i, 1), burns ? 0 : x.about(i, 2), NONE};
                    }
                    lies = new Told(blocks, lies.wheels, orderNow(x));
                    bought += burnt;
                    first = first == NONE && burnt > 0 ? spring : first;
                    if (spring % 4 == turn % 4) {
                        edges.due("BOUGHT in " + spring + " by '" + law + "'", asked.springs(spring, 0), bought);
                        edges.due("the first of " + spring + " by '" + law + "'", asked.springs(spring, 1), first);
                        edges.due("WORST behind " + spring + " by '" + law + "'", asked.springs(spring, 2), lies.made("").worst());
                    }
                }
                boughtInAll += bought;
            }
        }
        edges.due("some were BOUGHT", boughtInAll > 50 ? 1 : 0, 1);
    }

    private static PavedAnew aSpring(Told lies, String law) {
        PavedAnew x = lies.made(law);
        int best = x.best(1);
        if (best != NONE) {
            x.lay(best);
        }
        x.years(1);
        return x;
    }

    private static int orderNow(PavedAnew x) {
        int order = 0;
        for (int place = x.count(0) - 1; place >= 0; place--) {
            order = order * 8 + x.at(place);
        }
        return order;
    }

    /** A STREET without the BLOCK from the first on, the others as they lie and with WHEELS in the same PLACES. */
    private void thiefByNeverHavingHadIt() {
        edges.sentence(0, "the others move up, those with greater numbers are numbered one less");
        for (int size = 3; size <= 7; size++) {
            for (int gone = 0; gone < size; gone++) {
                Told told = drawn(size);
                PavedAnew robbed = told.made("nw");
                PavedAnew spared = without(told, gone).made("nw");
                edges.due("how many are left", robbed.thief(gone), size - 1);
                long[] is = Streets.allTold(robbed);
                long[] due = Streets.allTold(spared);
                for (int i = 0; i < due.length; i++) {
                    edges.due("BLOCK " + gone + " of " + size + ", as told by " + i, is[i], due[i]);
                }
            }
        }
    }

    private static Told without(Told told, int gone) {
        int size = told.blocks.length;
        List<int[]> blocks = new ArrayList<>(Arrays.asList(told.blocks));
        blocks.remove(gone);
        int[] left = new int[size - 1];
        int place = 0;
        for (int block : rowOf(told.order, size)) {
            if (block != gone) {
                left[place++] = block > gone ? block - 1 : block;
            }
        }
        return new Told(blocks.toArray(new int[0][]), told.wheels, Checks.order(left));
    }
}
