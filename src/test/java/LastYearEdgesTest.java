import java.io.IOException;

/** The edges that promises 23 to 26 name: last year and springs to come, sentence by sentence. */
public final class LastYearEdgesTest {
    private static final int LEAST = Edges.LEAST, MOST = Edges.MOST;
    private static final int NONE = Edges.NONE, UNKNOWN = Edges.UNKNOWN, OUTSIDE = Edges.OUTSIDE, STATE = Edges.STATE;
    private static final int[] ALL_ORDERS = {1, 1, 2, 6, 24, 120, 720, 5040};

    private final Edges edges = new Edges("LastYearEdgesTest");

    private LastYearEdgesTest() throws IOException {
    }

    public static void main(String[] args) throws IOException {
        LastYearEdgesTest t = new LastYearEdgesTest();
        t.wasBecomes();
        t.wasRefused();
        t.whatIsNotKnownAsksForNothing();
        t.whatIsKnownGivesTheWearOfToday();
        t.lastByKind();
        t.lastAtMost();
        t.wheelsAndHeadsAsNow();
        t.lastIsNoQuestionOfLaw();
        t.theFirstOne();
        t.lastRefused();
        t.sureOfItsPlace();
        t.notSure();
        t.sureRefused();
        t.fortyTimesTogether();
        t.whatDoesNotCount();
        t.springsAreLaidBest();
        t.noneLawfulTheyStay();
        t.burntAtMost();
        t.aNewOneOfItsKind();
        t.boughtInAll();
        t.theFirstSpring();
        t.springsAsTheyWouldBe();
        t.springsRefused();
        t.tenTimes();
        t.edges.end(23, 26);
    }

    /** BLOCKS of KIND 0 with the wear of today, and what it was a YEAR ago. */
    private static PavedAnew street(int[] today, int[] yearAgo, int... wheels) {
        PavedAnew x = Streets.worn("", today);
        Streets.was(x, yearAgo);
        Streets.wheels(x, wheels);
        return x;
    }

    private static int[] row(int... numbers) {
        return numbers;
    }

    // ---- 23

    private void wasBecomes() {
        edges.sentence(23, "WAS of a BLOCK becomes v (-1 to 999): what it was.");
        PavedAnew x = Streets.plain("", 1);
        edges.due("of one alone, not known at first", x.was(0, -1), -1);
        edges.due("not known still", x.was(0, 0), -1);
        edges.due("0", x.was(0, 999), 0);
        edges.due("999", x.was(0, -1), 999);
        edges.due("not known again", x.about(0, 4), -1);
        edges.due("its wear is another thing", x.about(0, 1), 0);
        PavedAnew seven = Streets.plain("", 7);
        seven.was(6, 3);
        edges.due("of the last one", seven.about(6, 4), 3);
        edges.due("of no other", seven.about(5, 4), -1);
    }

    private void wasRefused() {
        edges.sentence(23, "UNKNOWN; OUTSIDE.");
        for (int blocks : new int[] {0, 1, 7}) {
            for (int block : new int[] {-1, blocks, LEAST, MOST}) {
                edges.refused(block + " of " + blocks, () -> Streets.rich("", blocks), x -> x.was(block, 0), UNKNOWN);
                edges.refused("UNKNOWN goes first", () -> Streets.rich("", blocks), x -> x.was(block, -2), UNKNOWN);
            }
        }
        for (int v : new int[] {-2, 1000, LEAST, MOST}) {
            edges.refused("v " + v, () -> Streets.rich("", 3), x -> x.was(0, v), OUTSIDE);
        }
    }

    // ---- 24

    /** Of a BLOCK whose WAS is not known nothing is asked, even if it is worn by less than the WHEELS would. */
    private void whatIsNotKnownAsksForNothing() {
        edges.sentence(0, "of each BLOCK what its HEAD above was a YEAR ago is told (WAS; -1: not known)");
        for (int blocks = 2; blocks <= 7; blocks++) {
            PavedAnew x = Streets.plain("", blocks);
            Streets.wheels(x, 9, 9, 9, 9, 9, 9, 9);
            edges.due("none is known of " + blocks, x.last(0), ALL_ORDERS[blocks]);
            edges.due("the first one of " + blocks, x.last(1), Streets.inOrder(blocks));
            edges.due("none is sure of " + blocks, x.sure(0), NONE);
        }
        PavedAnew y = street(row(14, 0, 3), row(10, -1, -1), 4, 9, 8);
        edges.due("one is known", y.last(0), 2);
        edges.due("its PLACE", y.sure(0), 0);
        edges.due("the first one", y.last(1), Checks.order(0, 1, 2));
        y.was(1, 0);
        edges.due("0 is known, and is not -1", y.last(0), 0);
        y.was(1, -1);
        edges.due("not known again", y.last(0), 2);
        PavedAnew split = Streets.of("", 2, 1);
        Streets.wheels(split, 9, 9);
        edges.due("of whatever KIND", split.last(0), 2);
    }

    private void whatIsKnownGivesTheWearOfToday() {
        edges.sentence(0, "ORDERS that, worn for a YEAR as they lay then, give the wear of today");
        edges.due("each in its PLACE", street(row(4, 5), row(0, 0), 4, 5).last(1), Checks.order(0, 1));
        edges.due("each in the other's", street(row(4, 5), row(0, 0), 5, 4).last(1), Checks.order(1, 0));
        edges.due("one too little", street(row(3, 5), row(0, 0), 4, 5).last(0), 0);
        edges.due("one too much", street(row(5, 5), row(0, 0), 4, 5).last(0), 0);
        edges.due("either way", street(row(4, 4), row(0, 0), 4, 4).last(0), 2);
        edges.due("two for one PLACE", street(row(4, 4, 5), row(0, 0, 0), 4, 5, 5).last(0), 0);
        edges.due("more worn then than now", street(row(4, 5), row(5, 0), 4, 5).last(0), 0);
        edges.due("no WHEELS, no wear", street(row(0, 999), row(0, 999), 0, 0).last(0), 2);
        edges.due("as they lie now does not matter", afterAFlood().last(1), Checks.order(0, 1, 2));
    }

    private static PavedAnew afterAFlood() {
        PavedAnew x = street(row(1, 2, 3), row(0, 0, 0), 1, 2, 3);
        x.lay(Checks.order(2, 1, 0));
        return x;
    }

    private void lastByKind() {
        edges.sentence(0, "LAST: ORDERS that, worn for a YEAR");
        int[][] byWheels = {{9, 5, 18, 9, 5}, {8, 4, 16, 8, 4}, {1, 1, 2, 1, 1}, {0, 0, 0, 0, 0}};
        for (int[] wear : byWheels) {
            for (int kind = 0; kind <= 4; kind++) {
                PavedAnew x = new PavedAnew();
                x.block(kind, 100 + wear[kind], 0);
                x.block(0, 0, 0);
                Streets.wheels(x, wear[0], wear[0]);
                x.was(0, 100);
                edges.due("KIND " + kind + " by " + wear[0], x.last(1), Checks.order(0, 1));
                edges.due("in either PLACE", x.last(0), 2);
                x.was(0, 101);
                edges.due("not by one less", x.last(0), 0);
                x.was(0, 99);
                edges.due("nor by one more", x.last(0), 0);
            }
        }
    }

    private void lastAtMost() {
        edges.sentence(0, "999 at most");
        edges.due("just 999", street(row(999, 0), row(990, -1), 9, 8).sure(0), 0);
        edges.due("999 by more", street(row(999, 0), row(995, -1), 4, 3).sure(0), 0);
        edges.due("999 by any", street(row(999, 0), row(999, -1), 9, 0).last(0), 2);
        edges.due("by one at least", street(row(999, 0), row(998, -1), 0, 1).sure(0), 1);
        edges.due("998 by none from 999", street(row(998, 0), row(999, -1), 0, 9).last(0), 0);
        edges.due("998 by just that", street(row(998, 0), row(990, -1), 9, 8).sure(0), 1);
    }

    private void wheelsAndHeadsAsNow() {
        edges.sentence(0, "WHEELS and HEADS as now");
        PavedAnew x = street(row(14, 0), row(10, -1), 4, 5);
        edges.due("in PLACE 0", x.sure(0), 0);
        x.wheels(0, 5);
        x.wheels(1, 4);
        edges.due("WHEELS are others now", x.sure(0), 1);
        x.turn(0);
        edges.due("turned, not by this HEAD", x.last(0), 0);
        x.turn(0);
        edges.due("turned back", x.last(0), 1);
        Streets.wheels(x, 3, 3, 4);
        edges.due("in no PLACE where no BLOCK lies", x.last(0), 0);
        x.block(0, 0, 0);
        edges.due("but where one lies", x.sure(0), 2);
    }

    private void lastIsNoQuestionOfLaw() {
        edges.sentence(24, "LAST: what = 0 how many ORDERS");
        for (String law : new String[] {"n", "t", "w", "ntwm1"}) {
            PavedAnew x = Streets.of(law, 3, 0, 0);
            edges.due("LAWFUL or not, by " + law, x.last(0), 6);
            x.lay(Checks.order(0, 1, 2));
            Streets.was(x, 0, 0, 0);
            x.years(1);
            edges.due("turned or not, by " + law, x.last(0), 6);
        }
    }

    private void theFirstOne() {
        edges.sentence(24, "1 the first one (NONE)");
        edges.due("by PLACE 0, then 1", street(row(9, 5, 5), row(8, -1, -1), 3, 1, 1).last(1), Checks.order(1, 0, 2));
        edges.due("of two in PLACE 0", street(row(5, 5, 9), row(-1, -1, 8), 1, 3, 3).last(1), Checks.order(2, 0, 1));
        edges.due("none", street(row(5, 5), row(9, 9), 1, 1).last(1), NONE);
        edges.due("how many then", street(row(5, 5), row(9, 9), 1, 1).last(0), 0);
        PavedAnew x = Streets.rich("", 5);
        long before = x.digest();
        x.last(2);
        edges.due("nothing is LAID", x.digest(), before);
    }

    private void lastRefused() {
        edges.sentence(24, "STATE; OUTSIDE; STATE: last(), sure() were done 40 times together.");
        for (int blocks : new int[] {0, 1}) {
            edges.refused("with " + blocks, () -> Streets.rich("", blocks), x -> x.last(0), STATE);
            edges.refused("STATE goes first", () -> Streets.rich("", blocks), x -> x.last(2), STATE);
        }
        for (int what : new int[] {-1, 2, LEAST, MOST}) {
            edges.refused("what " + what, () -> Streets.rich("", 3), x -> x.last(what), OUTSIDE);
            edges.refused("OUTSIDE goes ahead", () -> lookedBack(40), x -> x.last(what), OUTSIDE);
        }
        edges.refused("40 were done", () -> lookedBack(40), x -> x.last(0), STATE);
        edges.refused("40 were done, the first", () -> lookedBack(40), x -> x.last(1), STATE);
    }

    private static PavedAnew lookedBack(int times) {
        PavedAnew x = street(row(4, 5), row(0, 0), 4, 5);
        for (int i = 0; i < times; i++) {
            if (i % 3 == 2) {
                x.sure(1);
            } else {
                x.last(i % 3);
            }
        }
        return x;
    }

    // ---- 25

    private void sureOfItsPlace() {
        edges.sentence(0, "SURE of a BLOCK: its PLACE in all of these");
        PavedAnew x = street(row(1, 2, 3, 4, 5, 6, 7), row(0, 0, 0, 0, 0, 0, 0), 7, 6, 5, 4, 3, 2, 1);
        for (int block = 0; block < 7; block++) {
            edges.due("BLOCK " + block, x.sure(block), 6 - block);
        }
        PavedAnew y = street(row(9, 0, 0), row(0, -1, -1), 3, 9, 3);
        edges.due("in all of two", y.sure(0), 1);
        edges.due("here and there", y.sure(1), NONE);
        edges.due("there and here", y.sure(2), NONE);
        PavedAnew left = street(row(3, 0, 9), row(0, -1, 0), 9, 3, 8);
        edges.due("what is left for one that is not known", left.sure(1), 2);
    }

    private void notSure() {
        edges.sentence(25, "SURE; NONE: it is not.");
        edges.due("no ORDER at all", street(row(5, 5), row(9, 9), 1, 1).sure(0), NONE);
        edges.due("no ORDER, of one that would be sure", street(row(2, 5), row(0, 9), 2, 1).sure(0), NONE);
        edges.due("two ORDERS", street(row(1, 1), row(0, 0), 1, 1).sure(1), NONE);
    }

    private void sureRefused() {
        edges.sentence(25, "UNKNOWN; STATE, as last().");
        for (int blocks : new int[] {0, 1, 2, 7}) {
            for (int block : new int[] {-1, blocks, LEAST, MOST}) {
                edges.refused(block + " of " + blocks, () -> Streets.rich("", blocks), x -> x.sure(block), UNKNOWN);
            }
        }
        edges.refused("of one alone", () -> Streets.rich("", 1), x -> x.sure(0), STATE);
        edges.refused("40 were done", () -> lookedBack(40), x -> x.sure(0), STATE);
        edges.refused("UNKNOWN goes ahead", () -> lookedBack(40), x -> x.sure(2), UNKNOWN);
    }

    private void fortyTimesTogether() {
        edges.sentence(24, "STATE: last(), sure() were done 40 times together");
        for (int done : new int[] {38, 39}) {
            edges.due("last, behind " + done, lookedBack(done).last(0), 1);
            edges.due("sure, behind " + done, lookedBack(done).sure(1), 1);
        }
        PavedAnew last = Streets.plain("", 2);
        PavedAnew sure = Streets.plain("", 2);
        for (int i = 1; i <= 40; i++) {
            edges.due("last " + i, last.last(0), 2);
            edges.due("sure " + i, sure.sure(0), NONE);
            edges.due("told by count()", sure.count(4), i);
        }
        edges.due("last 41", last.last(0), STATE);
        edges.due("then sure, too", last.sure(0), STATE);
        edges.due("sure 41", sure.sure(0), STATE);
        edges.due("then last, too", sure.last(1), STATE);
        edges.due("told by count()", last.count(4), 40);
        edges.due("best() is another thing", last.best(0), 1);
    }

    private void whatDoesNotCount() {
        edges.sentence(24, "last(), sure() were done 40 times together");
        PavedAnew x = Streets.plain("", 1);
        x.image();
        for (int i = 0; i < 45; i++) {
            x.last(0);
            x.sure(0);
            x.sure(1);
        }
        x.block(0, 0, 0);
        for (int i = 0; i < 45; i++) {
            x.last(2);
            x.sure(2);
        }
        edges.due("those that are refused", x.count(4), 0);
        for (int i = 0; i < 20; i++) {
            x.last(i % 2);
            x.sure(i % 2);
        }
        x.restore();
        edges.due("an IMAGE brings none back", x.count(4), 40);
        edges.due("one BLOCK, and OUTSIDE: STATE goes first", x.last(2), STATE);
        edges.due("one BLOCK, UNKNOWN", x.sure(1), UNKNOWN);
    }

    // ---- 26

    private void springsAreLaidBest() {
        edges.sentence(0, "each time the BEST ORDER (by how they lie then) is LAID");
        PavedAnew x = Streets.worn("", 10, 10, 12);
        Streets.wheels(x, 9, 0, 8);
        edges.due("the first as best() tells", x.springs(1, 2), 19);
        edges.due("the second by the wear of the first", x.springs(2, 2), 26);
        PavedAnew t = Streets.underLaw("t");
        t.block(0, 0, 0);
        t.block(4, 0, 0);
        Streets.wheels(t, 4, 4);
        edges.due("turned each time, the MARKED not", t.springs(6, 2), 12);
        PavedAnew n = Streets.plain("n", 4);
        Streets.wheels(n, 9, 0, 0, 0);
        // 1 3 0 2, 0 1 2 3, 2 0 3 1, 3 2 1 0: each has another BLOCK in PLACE 0, so that only a fifth wears one twice
        for (int springs = 1; springs <= 4; springs++) {
            edges.due("by n, " + springs, n.springs(springs, 2), 9);
        }
        edges.due("by n, 5", n.springs(5, 2), 18);
    }

    private void noneLawfulTheyStay() {
        edges.sentence(0, "(if none is LAWFUL, they stay as they lie, not turned)");
        PavedAnew x = Streets.underLaw("nt");
        x.block(0, 50, 0);
        x.block(0, 0, 900);
        Streets.wheels(x, 2, 9);
        edges.due("a YEAR goes by", x.springs(1, 2), 52);
        edges.due("twelve YEARS", x.springs(12, 2), 108);
        x.lay(Checks.order(1, 0));
        edges.due("still none", x.springs(6, 2), 62);
    }

    private void burntAtMost() {
        edges.sentence(0, "each BLOCK whose HEAD above and the other one are both MOST hundreds or more is BURNT");
        for (int most = 1; most <= 9; most++) {
            String law = "m" + most;
            int edge = 100 * most;
            edges.due("both just " + edge, oneBlock(law, edge - 1, edge).springs(1, 0), 1);
            edges.due("the other one less", oneBlock(law, edge - 1, edge - 1).springs(1, 0), 0);
            edges.due("this one less", oneBlock(law, edge - 2, edge).springs(1, 0), 0);
            edges.due("both more", oneBlock(law, edge + 50, edge + 50).springs(1, 0), 1);
        }
        edges.due("without m never", oneBlock("", 999, 999).springs(12, 0), 0);
        edges.due("without m, WORST", oneBlock("ntw", 999, 999).springs(12, 2), 999);
    }

    /** A BLOCK that one wheel wears, and one that is never burnt beside it. */
    private static PavedAnew oneBlock(String law, int above, int below) {
        PavedAnew x = Streets.underLaw(law);
        x.block(0, above, below);
        x.block(0, 0, 0);
        return x;
    }

    private void aNewOneOfItsKind() {
        edges.sentence(0, "a new one (both 0) of its KIND lies there");
        edges.due("its HEAD above", oneBlock("m1", 99, 100).springs(1, 2), 1);
        PavedAnew t = Streets.underLaw("tm1");
        t.block(0, 100, 99);
        t.block(0, 100, 99);
        edges.due("both BURNT, turned", t.springs(1, 0), 2);
        edges.due("HEADS above", t.springs(1, 2), 0);
        edges.due("the other HEADS", t.springs(2, 2), 1);
        PavedAnew split = Streets.underLaw("m1");
        split.block(2, 98, 100);
        split.block(2, 98, 100);
        Streets.wheels(split, 9, 9);
        edges.due("SPLITS are worn", split.springs(1, 2), 0);
        edges.due("new SPLITS, too", split.springs(2, 2), 18);
        PavedAnew marked = Streets.underLaw("tm1");
        marked.block(4, 95, 100);
        marked.block(4, 95, 100);
        Streets.wheels(marked, 9, 9);
        edges.due("new MARKED ones by half, never turned", marked.springs(4, 2), 15);
    }

    private void boughtInAll() {
        edges.sentence(0, "BOUGHT: how many were in all");
        PavedAnew x = Streets.underLaw("m1");
        for (int block = 0; block < 7; block++) {
            x.block(2, 90, 100);
        }
        Streets.wheels(x, 9, 9, 9, 9, 9, 9, 9);
        edges.due("seven at once", x.springs(1, 0), 7);
        edges.due("no others until the other HEAD is worn, too", x.springs(12, 0), 7);
        PavedAnew y = Streets.underLaw("m1");
        y.block(0, 97, 100);
        y.block(0, 90, 100);
        edges.due("one behind the other: none yet", y.springs(2, 0), 0);
        edges.due("the one", y.springs(3, 0), 1);
        edges.due("not yet the other", y.springs(9, 0), 1);
        edges.due("both", y.springs(10, 0), 2);
    }

    private void theFirstSpring() {
        edges.sentence(0, "the first SPRING (from 1) in which one was");
        edges.due("the first", oneBlock("m1", 99, 100).springs(12, 1), 1);
        edges.due("the twelfth", oneBlock("m1", 88, 100).springs(12, 1), 12);
        edges.due("not in eleven", oneBlock("m1", 88, 100).springs(11, 1), NONE);
        edges.due("not in twelve", oneBlock("m1", 87, 100).springs(12, 1), NONE);
        PavedAnew two = Streets.underLaw("m1");
        two.block(0, 97, 100);
        two.block(0, 98, 100);
        edges.due("of two the earlier", two.springs(12, 1), 2);
    }

    private void springsAsTheyWouldBe() {
        edges.sentence(0, "SPRINGS, one behind the other, as they would be");
        PavedAnew x = Streets.rich("tm1", 5);
        PavedAnew same = Streets.rich("tm1", 5);
        x.springs(12, 0);
        for (int block = 0; block < 5; block++) {
            for (int what = 0; what <= 4; what++) {
                edges.due("BLOCK " + block + ", " + what, x.about(block, what), same.about(block, what));
            }
            edges.due("PLACE " + block, x.at(block), same.at(block));
        }
        edges.due("best() is not done by it", x.count(3), same.count(3));
        edges.due("the IMAGE stays", x.restore(), same.restore());
        edges.due("as it was", x.about(0, 1), same.about(0, 1));
    }

    private void springsRefused() {
        edges.sentence(26, "STATE; OUTSIDE: springs (1 to 12), what; STATE: springs() was done 10 times.");
        for (int blocks : new int[] {0, 1}) {
            edges.refused("with " + blocks, () -> Streets.rich("", blocks), x -> x.springs(1, 0), STATE);
            edges.refused("STATE goes first", () -> Streets.rich("", blocks), x -> x.springs(13, 3), STATE);
        }
        for (int springs : new int[] {0, 13, -1, LEAST, MOST}) {
            edges.refused("springs " + springs, () -> Streets.rich("m1", 3), x -> x.springs(springs, 0), OUTSIDE);
            edges.refused("OUTSIDE goes ahead", () -> foretold(10), x -> x.springs(springs, 2), OUTSIDE);
        }
        for (int what : new int[] {-1, 3, LEAST, MOST}) {
            edges.refused("what " + what, () -> Streets.rich("m1", 3), x -> x.springs(12, what), OUTSIDE);
            edges.refused("OUTSIDE goes ahead", () -> foretold(10), x -> x.springs(1, what), OUTSIDE);
        }
        edges.refused("10 were done", () -> foretold(10), x -> x.springs(1, 0), STATE);
        edges.due("1 SPRING", Streets.plain("", 2).springs(1, 2), 1);
        edges.due("12 SPRINGS", Streets.plain("", 2).springs(12, 2), 12);
    }

    private static PavedAnew foretold(int times) {
        PavedAnew x = Streets.plain("m1", 3);
        for (int i = 0; i < times; i++) {
            x.springs(1 + i, i % 3);
        }
        return x;
    }

    private void tenTimes() {
        edges.sentence(26, "STATE: springs() was done 10 times");
        PavedAnew x = Streets.plain("", 1);
        x.image();
        for (int i = 0; i < 12; i++) {
            x.springs(1, 0);
        }
        x.block(0, 0, 0);
        for (int i = 0; i < 12; i++) {
            x.springs(0, 0);
            x.springs(1, 3);
        }
        edges.due("those that are refused do not count", x.count(5), 0);
        for (int i = 1; i <= 10; i++) {
            edges.due("the " + i + "th", x.springs(i, 2), i);
            edges.due("told by count()", x.count(5), i);
        }
        edges.due("the eleventh", x.springs(1, 2), STATE);
        x.restore();
        edges.due("an IMAGE brings none back", x.count(5), 10);
        edges.due("one BLOCK, and OUTSIDE: STATE goes first", x.springs(0, 0), STATE);
    }
}
