import java.io.IOException;
import java.util.function.ToIntFunction;

/**
 * Calls one behind the other, of which the earlier change what the later tell: first by hand, then each three of
 * the changes that there are, with all that can be asked behind them held against PlainStreet.
 */
public final class ChainTest {
    private static final int NONE = Edges.NONE, UNKNOWN = Edges.UNKNOWN, STATE = Edges.STATE;

    private final Edges edges = new Edges("ChainTest");

    private ChainTest() throws IOException {
    }

    public static void main(String[] args) throws IOException {
        ChainTest t = new ChainTest();
        t.thiefThenTheLaw();
        t.thiefThenLastYear();
        t.floodThenTheLaw();
        t.laidThenYears();
        t.yearsThenSprings();
        t.imageThenAnotherLaw();
        t.imageThenAnotherThief();
        t.refusedThenAllowed();
        t.threeChanges();
        t.edges.end(1, 0);
    }

    private void due(String what, long got, long want) {
        edges.due(what, got, want);
    }

    private void thiefThenTheLaw() {
        edges.sentence(0, "A THIEF takes a BLOCK: the others move up, those with greater numbers are numbered one less");
        PavedAnew x = Streets.worn("n", 10, 20, 30, 40, 50);
        due("1 and 3 lie apart", x.lawful(Checks.order(1, 3, 0, 2, 4)), 1);
        due("four are left", x.thief(2), 4);
        due("the one that was 3", x.about(2, 1), 40);
        due("they lie side by side now", x.lawful(Checks.order(1, 2, 0, 3)), 0);
        due("an ORDER of five is none now", x.lawful(Checks.order(1, 3, 0, 2, 4)), Edges.OUTSIDE);
        due("two ORDERS are left", x.howMany(), 2);
        due("the one", x.best(1), Checks.order(1, 3, 0, 2));
        due("LAID", x.lay(Checks.order(1, 3, 0, 2)), 50);
        due("the one in PLACE 1", x.thief(3), 3);
        due("those behind it move up", x.at(1), 0);
        due("the last, too", x.at(2), 2);
        due("no PLACE is left behind them", x.at(3), UNKNOWN);
        due("of three none is LAWFUL", x.best(0), NONE);
        PavedAnew w = Streets.of("w", 3, 0, 3, 3);
        due("by w, apart", w.lay(Checks.order(0, 1, 2, 3)), STATE);
        w.thief(1);
        due("by w, who stood between them is gone", w.lay(Checks.order(0, 1, 2)), 0);
        w.thief(2);
        due("both together", w.howMany(), 2);
    }

    private void thiefThenLastYear() {
        edges.sentence(0, "SURE of a BLOCK: its PLACE in all of these");
        PavedAnew x = Streets.worn("", 14, 17, 15, 19);
        Streets.was(x, 10, 10, 10, 10);
        Streets.wheels(x, 4, 5, 7, 9);
        due("each in one PLACE", x.last(1), Checks.order(0, 2, 1, 3));
        due("BLOCK 1 by 7", x.sure(1), 2);
        x.thief(0);
        due("9 is in no PLACE where one lies", x.last(0), 0);
        x.thief(2);
        due("nor is 7", x.last(0), 0);
        x.wheels(0, 7);
        due("7 is in PLACE 0, 5 in PLACE 1", x.last(1), Checks.order(0, 1));
        due("BLOCK 0 was BLOCK 1", x.sure(0), 0);
        x.years(1);
        due("a YEAR later WAS is no YEAR ago", x.last(0), 0);
        x.was(0, 17);
        x.was(1, 15);
        due("told anew", x.last(0), 1);
        due("turned", x.turn(0), 0);
        due("by the other HEAD none", x.last(1), NONE);
    }

    /** From 0 on the SEEDS are 12345 and 1406932606: the DRAWS are 0, so both change, and 21468, so none is turned. */
    private void floodThenTheLaw() {
        edges.sentence(0, "LAWFUL is an ORDER, if it is as \"n\" and \"w\" tell, by how they lie now.");
        PavedAnew x = Streets.worn("", 5, 9);
        Streets.wheels(x, 1, 8);
        due("carried back", x.carried(Checks.order(0, 1), 0), 0);
        due("a FLOOD", x.flood(0), 1406932606);
        due("carried back", x.carried(Checks.order(0, 1), 0), 2);
        due("one exchange", x.carried(Checks.order(0, 1), 1), 1);
        due("BLOCK 0 wears where it lies now", x.years(1), 13);
        due("BLOCK 1", x.about(1, 1), 10);
        x.block(0, 0, 0);
        x.block(0, 0, 0);
        Streets.write(x, "n");
        x.law();
        // they lie 1 0 2 3
        due("as they lie now", x.lawful(Checks.order(0, 2, 1, 3)), 0);
        due("new by that", x.lawful(Checks.order(0, 3, 1, 2)), 1);
        due("the first new one", x.best(1), Checks.order(0, 3, 1, 2));
    }

    private void laidThenYears() {
        edges.sentence(0, "When one is LAID, each BLOCK is turned as \"t\" tells.");
        PavedAnew x = Streets.underLaw("t");
        x.block(0, 10, 70);
        x.block(4, 20, 80);
        x.block(2, 30, 60);
        Streets.wheels(x, 9, 0, 5);
        due("BEST by the HEADS that come up, 70, 20 and 60", x.best(0), 70);
        due("the ORDER", x.best(1), Checks.order(1, 0, 2));
        due("another one is LAID", x.lay(Checks.order(2, 0, 1)), 70);
        due("a YEAR", x.years(1), 78);
        due("the MARKED one by half, not turned", x.about(1, 1), 23);
        due("the SPLIT one by twice", x.about(2, 1), 78);
        due("its HEAD that lies below", x.about(2, 2), 30);
        due("LAID again, so that these come up", x.lay(Checks.order(2, 0, 1)), 30);
        due("another YEAR", x.years(1), 48);
        due("both HEADS are worn now", x.about(2, 2), 78);
        due("turned by hand", x.turn(2), 78);
        due("WORST then", x.worst(), 78);
    }

    private void yearsThenSprings() {
        edges.sentence(0, "then each BLOCK whose HEAD above and the other one are both MOST hundreds or more is BURNT");
        PavedAnew x = Streets.underLaw("m1");
        x.block(0, 90, 100);
        x.block(0, 50, 300);
        due("ten SPRINGS from it", x.springs(12, 1), 10);
        x.years(9);
        due("years burn none", x.about(0, 1), 99);
        due("one SPRING from it", x.springs(12, 1), 1);
        x.years(1);
        due("nor do they at 100", x.about(0, 1), 100);
        due("nor is it new behind springs()", x.worst(), 100);
        due("BOUGHT in the next", x.springs(1, 0), 1);
        x.turn(0);
        due("nor is it so by one HEAD: both are", x.springs(1, 0), 1);
        Streets.write(x, "m2");
        x.law();
        due("by another LAW none is", x.springs(12, 0), 0);
        x.law();
        due("nor without m", x.springs(12, 1), NONE);
    }

    private void imageThenAnotherLaw() {
        edges.sentence(0, "An IMAGE keeps all BLOCKS, how they lie, HEADS, WHEELS, WAS.");
        PavedAnew x = Streets.plain("n", 4);
        x.image();
        x.lay(Checks.order(1, 3, 0, 2));
        due("by n, as they lie now", x.best(1), Checks.order(0, 1, 2, 3));
        x.restore();
        due("by n, as they lay", x.best(1), Checks.order(1, 3, 0, 2));
        x.law();
        x.restore();
        due("THE LAW is no part of it", x.best(1), Checks.order(0, 1, 2, 3));
        Streets.write(x, "tm");
        x.restore();
        due("nor is THE PAGE", x.fault(), 2);
        Streets.write(x, "3");
        due("it is read with what came behind", x.law(), 3);
        due("MOST", x.lawTold(3), 3);
        due("three were asked for", x.count(3), 3);
    }

    private void imageThenAnotherThief() {
        edges.sentence(28, "It goes on from the IMAGE: how many BLOCKS.");
        PavedAnew x = Streets.worn("", 1, 2, 3);
        x.image();
        x.thief(0);
        due("two", x.worst(), 3);
        due("no third THIEF", x.thief(0), STATE);
        due("three again", x.restore(), 3);
        due("another THIEF", x.thief(2), 2);
        due("WORST without it", x.worst(), 2);
        x.image();
        x.block(2, 7, 7);
        x.was(2, 6);
        due("the latest", x.restore(), 2);
        due("the third is gone", x.about(2, 0), UNKNOWN);
        due("a third anew", x.block(1, 8, 8), 2);
        due("of which nothing is known", x.about(2, 4), NONE);
        due("what goes on does not change the IMAGE", x.years(5), 13);
        x.restore();
        due("as it was kept", x.worst(), 2);
    }

    private void refusedThenAllowed() {
        edges.sentence(0, "they change nothing");
        PavedAnew x = Streets.withPage("nm");
        due("no LAW yet", x.law(), STATE);
        Streets.write(x, "4");
        due("but with this", x.law(), 1);
        due("one BLOCK", x.block(0, 1, 2), 0);
        due("no WORST yet", x.worst(), STATE);
        x.block(0, 3, 4);
        due("but of two", x.worst(), 3);
        x.block(0, 0, 0);
        x.block(0, 0, 0);
        due("not LAWFUL", x.lay(Checks.order(0, 1, 2, 3)), STATE);
        x.flood(0);
        x.law();
        due("but by another LAW", x.lay(Checks.order(0, 1, 2, 3)) >= 0 ? 1 : 0, 1);
        due("no IMAGE", x.restore(), STATE);
        x.image();
        due("but now", x.restore(), 4);
    }

    // ---- each three changes

    /** The same call of both; a call that is refused is one, too. */
    private static final class Step {
        final String name;
        final ToIntFunction<PavedAnew> real;
        final ToIntFunction<PlainStreet> plain;

        Step(String name, ToIntFunction<PavedAnew> real, ToIntFunction<PlainStreet> plain) {
            this.name = name;
            this.real = real;
            this.plain = plain;
        }
    }

    private static final Step[] CHANGES = {
        new Step("thief(0)", x -> x.thief(0), x -> x.thief(0)),
        new Step("thief(2)", x -> x.thief(2), x -> x.thief(2)),
        new Step("flood(3)", x -> x.flood(3), x -> x.flood(3)),
        new Step("flood(77)", x -> x.flood(77), x -> x.flood(77)),
        new Step("lay the last first", x -> x.lay(lastFirst(x.count(0))), x -> x.lay(lastFirst(x.count(0)))),
        new Step("lay(best)", x -> x.lay(x.best(1)), x -> x.lay(x.best(1))),
        new Step("years(2)", x -> x.years(2), x -> x.years(2)),
        new Step("turn(1)", x -> x.turn(1), x -> x.turn(1)),
        new Step("wheels(1, 9)", x -> x.wheels(1, 9), x -> x.wheels(1, 9)),
        new Step("was(0, 97)", x -> x.was(0, 97), x -> x.was(0, 97)),
        new Step("block(3, 99, 100)", x -> x.block(3, 99, 100), x -> x.block(3, 99, 100)),
        new Step("image()", PavedAnew::image, PlainStreet::image),
        new Step("restore()", PavedAnew::restore, PlainStreet::restore),
        new Step("law \"\"", x -> x.blank() + x.law(), x -> x.blank() + x.law()),
        law("n"), law("twm1"), law("wt"),
    };

    private static Step law(String text) {
        long w = Checks.word(text);
        return new Step("law '" + text + "'", x -> 1000 * x.letters(w) + x.law(), x -> 1000 * x.letters(w) + x.law());
    }

    private static int lastFirst(int blocks) {
        int[] order = new int[blocks];
        for (int place = 0; place < blocks; place++) {
            order[place] = (place + blocks - 1) % blocks;
        }
        return Checks.order(order);
    }

    private static final int[][] BLOCKS = {{3, 99, 98}, {0, 97, 100}, {4, 96, 101}, {2, 80, 90}};
    private static final int[] WHEELS = {3, 1, 4, 2, 6, 0, 5};

    private void threeChanges() {
        edges.sentence(0, "BLOCKS (2 to 7 lie in a STREET, numbered)");
        for (Step first : CHANGES) {
            for (Step second : CHANGES) {
                for (Step third : CHANGES) {
                    chain(first, second, third);
                }
            }
        }
    }

    private void chain(Step... steps) {
        PavedAnew real = new PavedAnew();
        PlainStreet plain = new PlainStreet();
        for (int[] block : BLOCKS) {
            real.block(block[0], block[1], block[2]);
            plain.block(block[0], block[1], block[2]);
        }
        for (int place = 0; place < WHEELS.length; place++) {
            real.wheels(place, WHEELS[place]);
            plain.wheels(place, WHEELS[place]);
        }
        real.image();
        plain.image();
        StringBuilder told = new StringBuilder();
        for (Step step : steps) {
            told.append(step.name).append(", ");
            due(told.toString(), step.real.applyAsInt(real), step.plain.applyAsInt(plain));
        }
        compare(told.toString(), real, plain);
    }

    private void compare(String told, PavedAnew real, PlainStreet plain) {
        due(told + "digest()", real.digest(), plain.digest());
        due(told + "fault()", real.fault(), plain.fault());
        for (int place = 0; place < plain.count(0); place++) {
            due(told + "at " + place, real.at(place), plain.at(place));
        }
        due(told + "howMany()", real.howMany(), plain.howMany());
        due(told + "best(0)", real.best(0), plain.best(0));
        due(told + "best(1)", real.best(1), plain.best(1));
        int order = lastFirst(plain.count(0));
        due(told + "lawful()", real.lawful(order), plain.lawful(order));
        for (int what = 0; what <= 2; what++) {
            due(told + "carried " + what, real.carried(order, what), plain.carried(order, what));
            due(told + "springs(3) " + what, real.springs(3, what), plain.springs(3, what));
        }
        due(told + "last(0)", real.last(0), plain.last(0));
        due(told + "last(1)", real.last(1), plain.last(1));
        due(told + "sure(0)", real.sure(0), plain.sure(0));
        due(told + "digest() in the end", real.digest(), plain.digest());
    }
}
