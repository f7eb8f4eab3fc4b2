import java.io.IOException;

/** The edges that promises 7 to 13 name, and what is said of BLOCKS ahead of them, sentence by sentence. */
public final class BlockEdgesTest {
    private static final int LEAST = Edges.LEAST, MOST = Edges.MOST;
    private static final int NONE = Edges.NONE, UNKNOWN = Edges.UNKNOWN, OUTSIDE = Edges.OUTSIDE, STATE = Edges.STATE;
    private static final int FULL = Edges.FULL;

    private final Edges edges = new Edges("BlockEdgesTest");

    private BlockEdgesTest() throws IOException {
    }

    public static void main(String[] args) throws IOException {
        BlockEdgesTest t = new BlockEdgesTest();
        t.blocksThatCome();
        t.blocksBehindTheLastOne();
        t.blockOutside();
        t.anEighthBlock();
        t.aboutEachThing();
        t.aboutRefused();
        t.asAKind();
        t.asRefused();
        t.wheelsBecome();
        t.wheelsWhereNoBlockLies();
        t.wheelsRefused();
        t.atAPlace();
        t.turnABlock();
        t.turnRefused();
        t.thiefDownToTwo();
        t.thiefTakesAnyOne();
        t.thiefTakesWhatIsTold();
        t.thiefRefused();
        t.edges.end(7, 13);
    }

    // ---- 7

    private void blocksThatCome() {
        edges.sentence(0, "They lie, as they come, in PLACES 0, 1, ...");
        PavedAnew x = new PavedAnew();
        for (int block = 0; block <= 6; block++) {
            edges.due("BLOCK " + block, x.block(block % 5, block, 10 * block), block);
            edges.due("its PLACE", x.about(block, 3), block);
            edges.due("who lies there", x.at(block), block);
            edges.due("none behind it", x.at(block + 1), UNKNOWN);
            edges.due("how many", x.count(0), block + 1);
        }
        edges.sentence(0, "0 BLOCK, 1 OAK, 2 SPLIT, 3 TWIN, 4 MARKED, each with two HEADS (wear 0 to 999), one above");
        for (int kind = 0; kind <= 4; kind++) {
            for (int wear : new int[] {0, 1, 998, 999}) {
                PavedAnew y = new PavedAnew();
                edges.due("KIND " + kind, y.block(kind, wear, 999 - wear), 0);
                edges.due("its KIND", y.about(0, 0), kind);
                edges.due("above", y.about(0, 1), wear);
                edges.due("below", y.about(0, 2), 999 - wear);
            }
        }
    }

    private void blocksBehindTheLastOne() {
        edges.sentence(7, "A BLOCK comes behind the last one: its number.");
        PavedAnew x = Streets.plain("", 3);
        x.lay(Checks.order(2, 0, 1));
        edges.due("a fourth", x.block(1, 5, 6), 3);
        edges.due("in the last PLACE", x.at(3), 3);
        edges.due("the others stay", x.at(0), 2);
        x.was(3, 77);
        x.thief(3);
        edges.due("a fourth again", x.block(2, 7, 8), 3);
        edges.due("of which nothing is known", x.about(3, 4), NONE);
        x.thief(0);
        edges.due("behind a THIEF its number is free again", x.block(0, 0, 0), 3);
        edges.due("the PLACE, too", x.about(3, 3), 3);
    }

    private void blockOutside() {
        edges.sentence(7, "OUTSIDE: kind, above, below (0 to 999)");
        for (int kind : new int[] {-1, 5, LEAST, MOST}) {
            edges.refused("kind " + kind, () -> Streets.rich("", 2), x -> x.block(kind, 0, 0), OUTSIDE);
        }
        for (int wear : new int[] {-1, 1000, LEAST, MOST}) {
            edges.refused("above " + wear, () -> Streets.rich("", 2), x -> x.block(0, wear, 0), OUTSIDE);
            edges.refused("below " + wear, () -> Streets.rich("", 2), x -> x.block(4, 0, wear), OUTSIDE);
        }
        edges.refused("of the first one", PavedAnew::new, x -> x.block(5, 0, 0), OUTSIDE);
    }

    private void anEighthBlock() {
        edges.sentence(7, "FULL: there are 7.");
        edges.due("a seventh", Streets.rich("", 6).block(4, 999, 999), 6);
        edges.refused("an eighth", () -> Streets.rich("", 7), x -> x.block(0, 0, 0), FULL);
        edges.refused("OUTSIDE goes ahead: kind", () -> Streets.rich("", 7), x -> x.block(5, 0, 0), OUTSIDE);
        edges.refused("OUTSIDE goes ahead: above", () -> Streets.rich("", 7), x -> x.block(0, 1000, 0), OUTSIDE);
        edges.refused("OUTSIDE goes ahead: below", () -> Streets.rich("", 7), x -> x.block(0, 0, -1), OUTSIDE);
        PavedAnew x = Streets.plain("", 7);
        x.thief(3);
        edges.due("behind a THIEF one more may come", x.block(0, 0, 0), 6);
        edges.due("and no other one", x.block(0, 0, 0), FULL);
    }

    // ---- 8

    private void aboutEachThing() {
        edges.sentence(8, "what = 0 KIND, 1 wear of its HEAD above, 2 of the other one, 3 its PLACE, 4 WAS (-1)");
        PavedAnew x = new PavedAnew();
        x.block(2, 11, 22);
        edges.due("WAS at first, of one alone", x.about(0, 4), -1);
        x.block(3, 33, 44);
        x.block(4, 55, 66);
        x.lay(Checks.order(1, 2, 0));
        x.was(0, 0);
        x.was(2, 999);
        int[][] want = {{2, 11, 22, 2, 0}, {3, 33, 44, 0, -1}, {4, 55, 66, 1, 999}};
        for (int block = 0; block < 3; block++) {
            for (int what = 0; what <= 4; what++) {
                edges.due("BLOCK " + block + ", " + what, x.about(block, what), want[block][what]);
            }
        }
    }

    private void aboutRefused() {
        edges.sentence(8, "UNKNOWN; OUTSIDE.");
        for (int blocks : new int[] {0, 1, 2, 6, 7}) {
            for (int block : new int[] {-1, blocks, 7, LEAST, MOST}) {
                edges.refused(block + " of " + blocks, () -> Streets.rich("", blocks), x -> x.about(block, 0), UNKNOWN);
                edges.refused("UNKNOWN goes first", () -> Streets.rich("", blocks), x -> x.about(block, 5), UNKNOWN);
            }
        }
        edges.due("the last one is there", Streets.rich("", 6).about(5, 3) >= 0 ? 1 : 0, 1);
        for (int what : new int[] {-1, 5, LEAST, MOST}) {
            edges.refused("what " + what, () -> Streets.rich("", 3), x -> x.about(2, what), OUTSIDE);
        }
    }

    // ---- 9

    private void asAKind() {
        edges.sentence(0, "All are BLOCKS; a MARKED is an OAK, too.");
        int[][] is = {{1, 0, 0, 0, 0}, {1, 1, 0, 0, 0}, {1, 0, 1, 0, 0}, {1, 0, 0, 1, 0}, {1, 1, 0, 0, 1}};
        PavedAnew x = Streets.of("", 0, 1, 2, 3, 4);
        for (int block = 0; block < 5; block++) {
            for (int kind = 0; kind < 5; kind++) {
                edges.due(block + " as " + kind, x.as(block, kind), is[block][kind] == 1 ? block : NONE);
            }
        }
        edges.sentence(9, "NONE: it is none such (the cast fails)");
        edges.due("an OAK is no MARKED", x.as(1, 4), NONE);
        edges.due("of one alone", Streets.plain("", 1).as(0, 1), NONE);
        edges.due("a cast changes nothing", x.about(4, 0), 4);
    }

    private void asRefused() {
        edges.sentence(9, "UNKNOWN; OUTSIDE.");
        for (int blocks : new int[] {0, 1, 7}) {
            for (int block : new int[] {-1, blocks, LEAST, MOST}) {
                edges.refused(block + " of " + blocks, () -> Streets.rich("", blocks), x -> x.as(block, 0), UNKNOWN);
                edges.refused("UNKNOWN goes first", () -> Streets.rich("", blocks), x -> x.as(block, 5), UNKNOWN);
            }
        }
        for (int kind : new int[] {-1, 5, LEAST, MOST}) {
            edges.refused("kind " + kind, () -> Streets.rich("", 3), x -> x.as(2, kind), OUTSIDE);
        }
    }

    // ---- 10

    private void wheelsBecome() {
        edges.sentence(10, "WHEELS in a PLACE (0 to 6) become v: what they were.");
        PavedAnew x = new PavedAnew();
        for (int place = 0; place <= 6; place++) {
            edges.due("PLACE " + place + " becomes 0", x.wheels(place, 0), 1);
            edges.due("PLACE " + place + " becomes 9", x.wheels(place, 9), 0);
            edges.due("PLACE " + place + " becomes its own", x.wheels(place, place), 9);
        }
        for (int place = 0; place <= 6; place++) {
            edges.due("PLACE " + place + " for itself", x.wheels(place, 1), place);
        }
    }

    private void wheelsWhereNoBlockLies() {
        edges.sentence(10, "WHEELS in a PLACE (0 to 6)");
        PavedAnew x = Streets.plain("", 2);
        edges.due("behind the last BLOCK", x.wheels(6, 8), 1);
        edges.due("they are kept", x.wheels(6, 7), 8);
        edges.due("they wear nobody", x.years(1), 1);
        for (int block = 2; block < 7; block++) {
            x.block(0, 0, 0);
        }
        edges.due("but who comes to lie there", x.years(1), 7);
    }

    private void wheelsRefused() {
        edges.sentence(10, "UNKNOWN: place; OUTSIDE.");
        for (int place : new int[] {-1, 7, LEAST, MOST}) {
            edges.refused("place " + place, () -> Streets.rich("", 7), x -> x.wheels(place, 1), UNKNOWN);
            edges.refused("UNKNOWN goes first", () -> Streets.rich("", 7), x -> x.wheels(place, 10), UNKNOWN);
        }
        for (int v : new int[] {-1, 10, LEAST, MOST}) {
            edges.refused("v " + v, () -> Streets.rich("", 4), x -> x.wheels(0, v), OUTSIDE);
            edges.refused("v " + v + " in the last", () -> Streets.rich("", 4), x -> x.wheels(6, v), OUTSIDE);
        }
    }

    // ---- 11

    private void atAPlace() {
        edges.sentence(0, "There are as many PLACES as BLOCKS");
        for (int blocks = 1; blocks <= 7; blocks++) {
            PavedAnew x = Streets.plain("", blocks);
            edges.due("the last PLACE of " + blocks, x.at(blocks - 1), blocks - 1);
            edges.due("one beyond", x.at(blocks), UNKNOWN);
        }
        edges.sentence(11, "The BLOCK in a PLACE. UNKNOWN.");
        PavedAnew y = Streets.plain("", 3);
        y.lay(Checks.order(1, 2, 0));
        for (int place = 0; place < 3; place++) {
            edges.due("PLACE " + place, y.at(place), (place + 1) % 3);
        }
        for (int blocks : new int[] {0, 1, 2, 7}) {
            for (int place : new int[] {-1, blocks, 7, LEAST, MOST}) {
                edges.refused(place + " of " + blocks, () -> Streets.rich("", blocks), x -> x.at(place), UNKNOWN);
            }
        }
    }

    // ---- 12

    private void turnABlock() {
        edges.sentence(12, "A BLOCK is turned: the wear of the HEAD above then.");
        for (int kind = 0; kind <= 3; kind++) {
            PavedAnew x = new PavedAnew();
            x.block(kind, 0, 999);
            edges.due("KIND " + kind + ", alone in the STREET", x.turn(0), 999);
            edges.due("the other HEAD", x.about(0, 2), 0);
            edges.due("and back", x.turn(0), 0);
            edges.due("as it was", x.about(0, 2), 999);
            edges.due("its PLACE", x.about(0, 3), 0);
        }
        PavedAnew y = Streets.worn("", 5, 6, 7);
        y.turn(1);
        edges.due("no other one", y.about(0, 1), 5);
        edges.due("nor behind it", y.about(2, 1), 7);
    }

    private void turnRefused() {
        edges.sentence(12, "UNKNOWN; STATE: it is MARKED.");
        for (int blocks : new int[] {0, 1, 7}) {
            for (int block : new int[] {-1, blocks, LEAST, MOST}) {
                edges.refused(block + " of " + blocks, () -> Streets.rich("", blocks), x -> x.turn(block), UNKNOWN);
            }
        }
        edges.refused("a MARKED", () -> Streets.rich("t", 4), x -> x.turn(0), STATE);
        edges.refused("a MARKED alone", () -> Streets.rich("", 1), x -> x.turn(0), STATE);
    }

    // ---- 13

    private void thiefDownToTwo() {
        edges.sentence(0, "(if three BLOCKS at least lie there)");
        PavedAnew x = Streets.plain("", 7);
        for (int left = 6; left >= 2; left--) {
            edges.due("left", x.thief(0), left);
            edges.due("told by count()", x.count(0), left);
            edges.due("the PLACES", x.at(left), UNKNOWN);
        }
        edges.due("of two none", x.thief(0), STATE);
    }

    private void thiefTakesAnyOne() {
        edges.sentence(0, "the others move up, those with greater numbers are numbered one less");
        int[] lie = {2, 0, 3, 1};
        for (int taken = 0; taken < 4; taken++) {
            PavedAnew x = Streets.worn("", 10, 20, 30, 40);
            x.lay(Checks.order(lie));
            edges.due("three are left", x.thief(taken), 3);
            int place = 0;
            for (int block : lie) {
                if (block != taken) {
                    int number = block > taken ? block - 1 : block;
                    edges.due(taken + " taken, PLACE " + place, x.at(place), number);
                    edges.due(taken + " taken, its own PLACE", x.about(number, 3), place);
                    edges.due(taken + " taken, who it is", x.about(number, 1), 10 + 10 * block);
                    place++;
                }
            }
        }
    }

    private void thiefTakesWhatIsTold() {
        edges.sentence(13, "A THIEF takes a BLOCK: how many are left.");
        PavedAnew x = new PavedAnew();
        for (int block = 0; block < 4; block++) {
            x.block(block, 10 * block, 100 + block);
        }
        Streets.was(x, 0, 10, 20, 30);
        Streets.wheels(x, 2, 3, 4, 5);
        x.image();
        edges.due("three", x.thief(1), 3);
        int[][] want = {{0, 0, 100, 0, 0}, {2, 20, 102, 1, 20}, {3, 30, 103, 2, 30}};
        for (int block = 0; block < 3; block++) {
            for (int what = 0; what <= 4; what++) {
                edges.due("BLOCK " + block + ", " + what, x.about(block, what), want[block][what]);
            }
        }
        edges.due("WHEELS stay in their PLACES", x.count(6), 9);
        edges.due("where no BLOCK is now, too", x.wheels(3, 5), 5);
        edges.due("no IMAGE is robbed", x.restore(), 4);
        edges.due("he is there", x.about(1, 0), 1);
    }

    private void thiefRefused() {
        edges.sentence(13, "UNKNOWN; STATE: there are fewer than three.");
        for (int blocks : new int[] {0, 1, 2, 3, 7}) {
            for (int block : new int[] {-1, blocks, LEAST, MOST}) {
                edges.refused(block + " of " + blocks, () -> Streets.rich("", blocks), x -> x.thief(block), UNKNOWN);
            }
        }
        edges.refused("of one", () -> Streets.rich("", 1), x -> x.thief(0), STATE);
        edges.refused("of two", () -> Streets.rich("", 2), x -> x.thief(0), STATE);
        edges.refused("of two the other", () -> Streets.rich("", 2), x -> x.thief(1), STATE);
        edges.due("of three", Streets.rich("", 3).thief(2), 2);
    }
}
