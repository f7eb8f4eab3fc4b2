/** Each promise of the document by its number: ordinary inputs, the edges it names, wrong inputs. */
public final class PromiseTest {
    private static final int LEAST = Integer.MIN_VALUE, MOST = Integer.MAX_VALUE;
    private static final int NONE = -1, UNKNOWN = -101, OUTSIDE = -102, STATE = -103, FULL = -104;

    private final Checks checks = new Checks("PromiseTest");

    public static void main(String[] args) {
        PromiseTest t = new PromiseTest();
        t.newObject();
        t.letters();
        t.blank();
        t.fault();
        t.law();
        t.lawTold();
        t.block();
        t.about();
        t.as();
        t.wheels();
        t.at();
        t.turn();
        t.thief();
        t.lay();
        t.lawful();
        t.years();
        t.worst();
        t.best();
        t.howMany();
        t.carried();
        t.flood();
        t.looks();
        t.was();
        t.last();
        t.sure();
        t.springs();
        t.springsWithLaw();
        t.image();
        t.restore();
        t.count();
        t.digest();
        t.checks.end();
    }

    private void due(String call, long got, long want) {
        checks.due(call, got, want);
    }

    private static PavedAnew underLaw(String text) {
        PavedAnew x = new PavedAnew();
        x.letters(Checks.word(text));
        x.law();
        return x;
    }

    /** BLOCKS of these KINDS, not worn. */
    private static PavedAnew street(String law, int... kinds) {
        PavedAnew x = underLaw(law);
        for (int kind : kinds) {
            x.block(kind, 0, 0);
        }
        return x;
    }

    private static void setWheels(PavedAnew x, int... wheels) {
        for (int place = 0; place < wheels.length; place++) {
            x.wheels(place, wheels[place]);
        }
    }

    /** As a call that is refused changes nothing. */
    private void refused(PavedAnew x, String call, long before, long got, long want) {
        due(call, got, want);
        due(call + " changes nothing", x.digest(), before);
    }

    // 1
    private void newObject() {
        PavedAnew x = new PavedAnew();
        for (int what = 0; what <= 6; what++) {
            due("1: count " + what, x.count(what), 0);
        }
        for (int what = 0; what <= 2; what++) {
            due("1: lawTold " + what, x.lawTold(what), 0);
        }
        due("1: MOST", x.lawTold(3), 10);
        for (int place = 0; place < 7; place++) {
            due("1: WHEELS at first in " + place, x.wheels(place, 1), 1);
        }
        due("1: about", x.about(0, 0), UNKNOWN);
        due("1: at", x.at(0), UNKNOWN);
        due("1: restore", x.restore(), STATE);
        PavedAnew other = new PavedAnew();
        x.block(0, 1, 2);
        due("1: objects share nothing", other.count(0), 0);
    }

    // 2
    private void letters() {
        PavedAnew x = new PavedAnew();
        due("2: no letters", x.letters(0), 0);
        due("2: one", x.letters('n'), 1);
        due("2: two more", x.letters(Checks.word("tw")), 3);
        due("2: the least and greatest codes", x.letters(126 << 8 | 1), 5);
        due("2: eight at once", x.letters(Checks.word("abcdefgh")), 13);
        long before = x.digest();
        refused(x, "2: above 16", before, x.letters(Checks.word("abcd")), FULL);
        refused(x, "2: a byte 127", before, x.letters(127), OUTSIDE);
        refused(x, "2: a byte 128", before, x.letters(128), OUTSIDE);
        refused(x, "2: the last byte 127", before, x.letters(127L << 56 | 0x61616161616161L), OUTSIDE);
        refused(x, "2: all bytes 255", before, x.letters(-1), OUTSIDE);
        refused(x, "2: the least long", before, x.letters(Long.MIN_VALUE), OUTSIDE);
        refused(x, "2: a letter behind a 0", before, x.letters('n' << 16 | 't'), OUTSIDE);
        refused(x, "2: a 0 first", before, x.letters('n' << 8), OUTSIDE);
        due("2: just 16", x.letters(Checks.word("abc")), 16);
        due("2: none more", x.letters(0), 16);
        due("2: one more", x.letters('a'), FULL);
        due("2: OUTSIDE goes ahead of FULL", x.letters(200), OUTSIDE);
    }

    // 3
    private void blank() {
        PavedAnew x = new PavedAnew();
        due("3: an empty page", x.blank(), 0);
        x.letters(Checks.word("xyz"));
        due("3: three letters", x.blank(), 3);
        due("3: empty then", x.count(1), 0);
        due("3: a law then", x.fault(), 0);
        due("3: nothing left", x.letters('n'), 1);
        due("3: it is read anew", x.law(), 1);
        due("3: by its own letter", x.lawTold(0), 1);
    }

    private void faultOf(String text, int want) {
        PavedAnew x = new PavedAnew();
        x.letters(Checks.word(text));
        due("4: fault of '" + text + "'", x.fault(), want);
        due("4: THE PAGE stays", x.count(1), text.length());
    }

    // 4
    private void fault() {
        faultOf("", 0);
        faultOf("n", 1);
        faultOf("ntwm9", 5);
        faultOf("tm1", 3);
        faultOf("m", 1);
        faultOf("ntwm", 4);
        faultOf("nm0", 2);
        faultOf("m:", 1);
        faultOf("mn", 1);
        faultOf("m11", 2);
        faultOf("m1n", 2);
        faultOf("nn", 1);
        faultOf("tn", 1);
        faultOf("wt", 1);
        faultOf("wn", 1);
        faultOf("mm", 1);
        faultOf("nwt", 2);
        faultOf("x", 0);
        faultOf("N", 0);
        faultOf("5", 0);
        faultOf("n5", 1);
        faultOf(" n", 0);
        faultOf("ntwm9n", 5);
        faultOf("xn", 0);
    }

    private void noLaw(String text) {
        PavedAnew x = new PavedAnew();
        x.letters(Checks.word(text));
        long before = x.digest();
        refused(x, "5: '" + text + "'", before, x.law(), STATE);
    }

    // 5
    private void law() {
        for (int bits = 0; bits < 8; bits++) {
            lawsOf(bits);
        }
        PavedAnew x = underLaw("ntwm4");
        due("5: an empty text", x.law(), 2);
        for (int what = 0; what < 4; what++) {
            due("5: another one is gone, " + what, x.lawTold(what), what < 3 ? 0 : 10);
        }
        for (String text : new String[] {"m", "ntwm", "nn", "tn", "m0", "m12", "x", "ntx", "mt", "wn"}) {
            noLaw(text);
        }
    }

    private void lawsOf(int bits) {
        PavedAnew x = new PavedAnew();
        for (int most = 1; most <= 10; most++) {
            String text = ((bits & 1) != 0 ? "n" : "") + ((bits & 2) != 0 ? "t" : "") + ((bits & 4) != 0 ? "w" : "")
                    + (most < 10 ? "m" + most : "");
            x.letters(Checks.word(text));
            due("5: law " + text, x.law(), most);
            due("5: THE PAGE is empty then", x.count(1), 0);
            due("5: n of " + text, x.lawTold(0), bits & 1);
            due("5: t of " + text, x.lawTold(1), bits >> 1 & 1);
            due("5: w of " + text, x.lawTold(2), bits >> 2 & 1);
            due("5: MOST of " + text, x.lawTold(3), most);
        }
    }

    // 6
    private void lawTold() {
        PavedAnew x = underLaw("tm7");
        due("6: n", x.lawTold(0), 0);
        due("6: t", x.lawTold(1), 1);
        due("6: w", x.lawTold(2), 0);
        due("6: MOST", x.lawTold(3), 7);
        x.letters(Checks.word("nw"));
        due("6: what is on THE PAGE is no LAW yet", x.lawTold(0), 0);
        for (int what : new int[] {-1, 4, LEAST, MOST}) {
            due("6: lawTold " + what, x.lawTold(what), OUTSIDE);
        }
    }

    // 7
    private void block() {
        PavedAnew x = new PavedAnew();
        int[][] wrong = {{-1, 0, 0}, {5, 0, 0}, {0, -1, 0}, {0, 1000, 0}, {0, 0, -1}, {0, 0, 1000},
            {LEAST, 0, 0}, {MOST, 0, 0}, {0, LEAST, 0}, {0, MOST, 0}, {0, 0, LEAST}, {0, 0, MOST}};
        for (int[] w : wrong) {
            refused(x, "7: block", x.digest(), x.block(w[0], w[1], w[2]), OUTSIDE);
        }
        due("7: the least", x.block(0, 0, 0), 0);
        due("7: the greatest", x.block(4, 999, 999), 1);
        for (int block = 2; block < 7; block++) {
            due("7: its number", x.block(block % 5, block, 0), block);
            due("7: its PLACE", x.about(block, 3), block);
            due("7: WAS", x.about(block, 4), NONE);
        }
        refused(x, "7: an eighth", x.digest(), x.block(0, 0, 0), FULL);
        due("7: OUTSIDE goes ahead of FULL", x.block(5, 0, 0), OUTSIDE);
        PavedAnew y = street("", 0, 0, 0);
        y.lay(Checks.order(2, 0, 1));
        due("7: behind the last one", y.block(1, 5, 6), 3);
        due("7: in the last PLACE", y.at(3), 3);
        due("7: the others stay", y.at(0), 2);
    }

    // 8
    private void about() {
        PavedAnew x = new PavedAnew();
        x.block(2, 11, 22);
        x.block(3, 33, 44);
        x.lay(Checks.order(1, 0));
        x.was(1, 7);
        int[][] want = {{2, 11, 22, 1, -1}, {3, 33, 44, 0, 7}};
        for (int block = 0; block < 2; block++) {
            for (int what = 0; what < 5; what++) {
                due("8: about " + block + " " + what, x.about(block, what), want[block][what]);
            }
        }
        for (int block : new int[] {-1, 2, 7, 8, LEAST, MOST}) {
            due("8: block " + block, x.about(block, 0), UNKNOWN);
            due("8: UNKNOWN goes first", x.about(block, 9), UNKNOWN);
        }
        for (int what : new int[] {-1, 5, LEAST, MOST}) {
            due("8: what " + what, x.about(0, what), OUTSIDE);
        }
    }

    // 9
    private void as() {
        PavedAnew x = street("", 0, 1, 2, 3, 4);
        for (int block = 0; block < 5; block++) {
            for (int kind = 0; kind < 5; kind++) {
                boolean is = kind == 0 || kind == block || block == 4 && kind == 1;
                due("9: as " + block + " " + kind, x.as(block, kind), is ? block : NONE);
            }
            due("9: kind -1", x.as(block, -1), OUTSIDE);
            due("9: kind 5", x.as(block, 5), OUTSIDE);
        }
        due("9: a block that is not there", x.as(5, 0), UNKNOWN);
        due("9: a block below 0", x.as(-1, 0), UNKNOWN);
        due("9: UNKNOWN goes first", x.as(MOST, LEAST), UNKNOWN);
    }

    // 10
    private void wheels() {
        PavedAnew x = new PavedAnew();
        for (int place = 0; place < 7; place++) {
            due("10: first", x.wheels(place, place + 3), 1);
            due("10: then", x.wheels(place, 0), place + 3);
            due("10: none", x.wheels(place, 9), 0);
        }
        for (int place : new int[] {-1, 7, LEAST, MOST}) {
            due("10: place " + place, x.wheels(place, 1), UNKNOWN);
            due("10: UNKNOWN goes first", x.wheels(place, 10), UNKNOWN);
        }
        for (int v : new int[] {-1, 10, LEAST, MOST}) {
            refused(x, "10: v " + v, x.digest(), x.wheels(3, v), OUTSIDE);
        }
    }

    // 11
    private void at() {
        PavedAnew x = street("", 0, 1, 2);
        x.lay(Checks.order(1, 2, 0));
        due("11: at 0", x.at(0), 1);
        due("11: at 1", x.at(1), 2);
        due("11: at 2", x.at(2), 0);
        for (int place : new int[] {-1, 3, 6, 7, LEAST, MOST}) {
            due("11: at " + place, x.at(place), UNKNOWN);
        }
    }

    // 12
    private void turn() {
        PavedAnew x = new PavedAnew();
        x.block(0, 3, 8);
        x.block(4, 3, 8);
        due("12: turned", x.turn(0), 8);
        due("12: the other HEAD", x.about(0, 2), 3);
        due("12: back again", x.turn(0), 3);
        refused(x, "12: MARKED", x.digest(), x.turn(1), STATE);
        for (int block : new int[] {-1, 2, 7, LEAST, MOST}) {
            due("12: block " + block, x.turn(block), UNKNOWN);
        }
    }

    // 13
    private void thief() {
        PavedAnew x = new PavedAnew();
        for (int block = 0; block < 4; block++) {
            x.block(block, 10 * block, block);
            x.was(block, 100 + block);
        }
        setWheels(x, 2, 3, 4, 5);
        x.lay(Checks.order(3, 1, 0, 2));
        x.image();
        due("13: three are left", x.thief(1), 3);
        due("13: PLACE 0", x.at(0), 2);
        due("13: PLACE 1", x.at(1), 0);
        due("13: PLACE 2", x.at(2), 1);
        int[][] want = {{0, 0, 0, 1, 100}, {2, 20, 2, 2, 102}, {3, 30, 3, 0, 103}};
        for (int block = 0; block < 3; block++) {
            for (int what = 0; what < 5; what++) {
                due("13: about " + block + " " + what, x.about(block, what), want[block][what]);
            }
        }
        due("13: WHEELS stay in their PLACES", x.count(6), 9);
        due("13: no such block", x.thief(3), UNKNOWN);
        due("13: below 0", x.thief(-1), UNKNOWN);
        due("13: two are left", x.thief(2), 2);
        refused(x, "13: fewer than three", x.digest(), x.thief(0), STATE);
        due("13: UNKNOWN goes first", x.thief(2), UNKNOWN);
        due("13: the IMAGE has all", x.restore(), 4);
        due("13: as they lay", x.at(0), 3);
    }

    // 14
    private void lay() {
        PavedAnew x = underLaw("t");
        due("14: no BLOCKS", x.lay(0), STATE);
        x.block(0, 10, 50);
        due("14: one BLOCK", x.lay(0), STATE);
        x.block(4, 20, 60);
        x.block(1, 30, 5);
        due("14: WORST then", x.lay(Checks.order(2, 0, 1)), 50);
        due("14: PLACE 0", x.at(0), 2);
        due("14: PLACE 1", x.at(1), 0);
        due("14: PLACE 2", x.at(2), 1);
        due("14: turned", x.about(0, 1), 50);
        due("14: a MARKED is not", x.about(1, 1), 20);
        due("14: an OAK is", x.about(2, 1), 5);
        long before = x.digest();
        for (int order : new int[] {0, 1, 8, Checks.order(0, 1, 1), Checks.order(0, 1, 3), Checks.order(0, 1, 2, 1),
            Checks.order(0, 1, 2) | 1 << 30, Checks.order(0, 1, 2) | LEAST, -1, LEAST, MOST}) {
            refused(x, "14: no ORDER " + order, before, x.lay(order), OUTSIDE);
        }
        PavedAnew y = street("n", 0, 0, 0, 0);
        refused(y, "14: not LAWFUL", y.digest(), y.lay(Checks.order(0, 1, 2, 3)), STATE);
        due("14: OUTSIDE goes ahead", y.lay(Checks.order(0, 1, 1, 3)), OUTSIDE);
        due("14: LAWFUL", y.lay(Checks.order(1, 3, 0, 2)), 0);
        due("14: not twice, by how they lie now", y.lay(Checks.order(1, 3, 0, 2)), STATE);
        due("14: back again", y.lay(Checks.order(0, 1, 2, 3)), 0);
        PavedAnew z = street("", 0, 0);
        due("14: without \"t\"", z.lay(Checks.order(0, 1)), 0);
    }

    // 15
    private void lawful() {
        PavedAnew x = underLaw("nw");
        due("15: no BLOCKS", x.lawful(0), STATE);
        x.block(3, 0, 0);
        due("15: one BLOCK", x.lawful(0), STATE);
        PavedAnew n = street("n", 0, 3, 0, 0);
        due("15: side by side before", n.lawful(Checks.order(1, 0, 3, 2)), 0);
        due("15: all new", n.lawful(Checks.order(2, 0, 3, 1)), 1);
        due("15: a TWIN alone, without \"w\"", n.lawful(Checks.order(1, 3, 0, 2)), 1);
        PavedAnew w = street("w", 3, 0, 3, 0, 3);
        due("15: TWINS apart", w.lawful(Checks.order(0, 1, 2, 3, 4)), 0);
        due("15: one apart at the end", w.lawful(Checks.order(0, 2, 1, 3, 4)), 0);
        due("15: three together", w.lawful(Checks.order(1, 4, 0, 2, 3)), 1);
        due("15: at the end", w.lawful(Checks.order(1, 3, 0, 2, 4)), 1);
        due("15: two and one", w.lawful(Checks.order(1, 0, 2, 3, 4)), 0);
        PavedAnew pair = street("w", 3, 0, 3, 0);
        due("15: two in the first PLACES", pair.lawful(Checks.order(0, 2, 1, 3)), 1);
        due("15: two in the last PLACES", pair.lawful(Checks.order(1, 3, 2, 0)), 1);
        due("15: two in the middle", pair.lawful(Checks.order(1, 0, 2, 3)), 1);
        due("15: two at both ends", pair.lawful(Checks.order(0, 1, 3, 2)), 0);
        due("15: one TWIN alone", street("w", 3, 0).lawful(Checks.order(0, 1)), 0);
        due("15: no TWIN", street("w", 1, 4).lawful(Checks.order(0, 1)), 1);
        due("15: two BLOCKS are side by side ever", street("n", 0, 0).lawful(Checks.order(1, 0)), 0);
        for (int order : new int[] {0, 1, -1, LEAST, MOST, Checks.order(0, 1, 2, 3, 5), Checks.order(0, 1, 2, 3, 4, 5)}) {
            due("15: no ORDER " + order, w.lawful(order), OUTSIDE);
        }
        PavedAnew seven = street("", 0, 0, 0, 0, 0, 0, 0);
        due("15: seven BLOCKS", seven.lawful(Checks.order(6, 5, 4, 3, 2, 1, 0)), 1);
        due("15: an eighth figure", seven.lawful(Checks.order(6, 5, 4, 3, 2, 1, 0, 1)), OUTSIDE);
        due("15: a figure 7", seven.lawful(Checks.order(7, 5, 4, 3, 2, 1, 0)), OUTSIDE);
    }

    // 16
    private void years() {
        PavedAnew x = new PavedAnew();
        due("16: no BLOCKS", x.years(1), STATE);
        x.block(0, 0, 0);
        due("16: one BLOCK", x.years(0), STATE);
        for (int kind = 1; kind < 5; kind++) {
            x.block(kind, 0, 0);
        }
        setWheels(x, 5, 5, 5, 5, 5);
        due("16: WORST then", x.years(1), 10);
        int[] want = {5, 3, 10, 5, 3};
        for (int block = 0; block < 5; block++) {
            due("16: KIND " + block, x.about(block, 1), want[block]);
            due("16: the other HEAD", x.about(block, 2), 0);
        }
        setWheels(x, 0, 0, 0, 9, 1);
        due("16: two YEARS", x.years(2), 23);
        due("16: a MARKED by one wheel", x.about(4, 1), 5);
        for (int years : new int[] {0, 100, -1, LEAST, MOST}) {
            refused(x, "16: years " + years, x.digest(), x.years(years), OUTSIDE);
        }
        setWheels(x, 9, 9, 9, 9, 9);
        due("16: 99 YEARS", x.years(99), 999);
        due("16: 999 at most", x.about(2, 1), 999);
        due("16: below that", x.about(0, 1), 5 + 99 * 9);
        due("16: it stays", x.years(1), 999);
        PavedAnew moved = street("", 0, 0);
        setWheels(moved, 2, 7);
        moved.lay(Checks.order(1, 0));
        due("16: by where they lie", moved.years(1), 7);
        due("16: BLOCK 0 lies in PLACE 1", moved.about(0, 1), 7);
    }

    // 17
    private void worst() {
        PavedAnew x = new PavedAnew();
        due("17: no BLOCKS", x.worst(), STATE);
        x.block(0, 5, 900);
        due("17: one BLOCK", x.worst(), STATE);
        x.block(0, 7, 0);
        due("17: a HEAD above", x.worst(), 7);
        x.turn(0);
        due("17: turned", x.worst(), 900);
    }

    // 18
    private void best() {
        PavedAnew x = new PavedAnew();
        due("18: no BLOCKS", x.best(0), STATE);
        x.block(0, 10, 0);
        due("18: STATE goes first", x.best(5), STATE);
        x.block(0, 10, 0);
        x.block(0, 12, 0);
        setWheels(x, 5, 3, 1);
        due("18: WORST behind a YEAR", x.best(0), 15);
        due("18: of like ones the first", x.best(1), Checks.order(0, 1, 2));
        x.wheels(0, 9);
        due("18: now 19", x.best(0), 19);
        x.wheels(1, 0);
        x.wheels(2, 8);
        due("18: the most worn where no wheels go", x.best(1), Checks.order(0, 2, 1));
        due("18: nothing is LAID", x.at(1), 1);
        due("18: four were done", x.count(3), 4);
        for (int what : new int[] {-1, 2, LEAST, MOST}) {
            refused(x, "18: what " + what, x.digest(), x.best(what), OUTSIDE);
        }
        for (int i = 4; i < 40; i++) {
            due("18: up to 40", i % 2 == 0 ? x.best(0) : x.howMany(), i % 2 == 0 ? 19 : 6);
        }
        refused(x, "18: 40 were done", x.digest(), x.best(0), STATE);
        due("18: OUTSIDE goes ahead of that", x.best(2), OUTSIDE);
        PavedAnew none = street("n", 0, 0, 0);
        due("18: none is LAWFUL", none.best(0), NONE);
        due("18: no ORDER", none.best(1), NONE);
        due("18: they count", none.count(3), 2);
        bestByLaw();
    }

    private void bestByLaw() {
        PavedAnew t = underLaw("t");
        t.block(0, 100, 10);
        t.block(4, 50, 0);
        t.block(0, 0, 40);
        setWheels(t, 8, 1, 1);
        due("18: HEADS that come up are worn", t.best(0), 51);
        due("18: the first by these", t.best(1), Checks.order(0, 1, 2));
        PavedAnew n = street("n", 0, 0, 0, 0);
        due("18: the first LAWFUL one", n.best(1), Checks.order(1, 3, 0, 2));
        PavedAnew w = street("w", 3, 0, 3);
        due("18: TWINS together", w.best(1), Checks.order(0, 2, 1));
        due("18: each TWIN by another", street("w", 3, 0, 3, 3).best(1), Checks.order(0, 2, 3, 1));
        PavedAnew idle = street("", 0, 2);
        setWheels(idle, 0, 0);
        due("18: nothing is worn", idle.best(0), 0);
        PavedAnew high = new PavedAnew();
        high.block(0, 999, 0);
        high.block(2, 995, 0);
        due("18: 999 at most", high.best(0), 999);
        due("18: all alike", high.best(1), Checks.order(0, 1));
    }

    // 19
    private void howMany() {
        PavedAnew x = new PavedAnew();
        due("19: no BLOCKS", x.howMany(), STATE);
        x.block(0, 0, 0);
        due("19: one BLOCK", x.howMany(), STATE);
        due("19: that does not count", x.count(3), 0);
        int[] all = {2, 6, 24, 120, 720, 5040};
        int[] fresh = {0, 0, 2, 14, 90, 646};
        for (int blocks = 2; blocks <= 7; blocks++) {
            due("19: of " + blocks, street("", new int[blocks]).howMany(), all[blocks - 2]);
            due("19: new ones of " + blocks, street("n", new int[blocks]).howMany(), fresh[blocks - 2]);
        }
        due("19: one TWIN", street("w", 3, 0, 0).howMany(), 0);
        due("19: two TWINS", street("w", 3, 0, 3, 0).howMany(), 12);
        due("19: four TWINS, in two pairs or one row", street("w", 3, 3, 3, 3, 0).howMany(), 72);
        due("19: all TWINS", street("w", 3, 3, 3).howMany(), 6);
        due("19: \"n\" and \"w\"", street("nw", 3, 0, 3, 0).howMany(), 2);
        due("19: TWINS that lay together", street("nw", 3, 3, 0, 0).howMany(), 0);
        PavedAnew y = street("", 0, 0);
        for (int i = 0; i < 40; i++) {
            due("19: up to 40", y.howMany(), 2);
        }
        refused(y, "19: 40 were done", y.digest(), y.howMany(), STATE);
        due("19: best(), too", y.best(1), STATE);
    }

    // 20
    private void carried() {
        PavedAnew x = new PavedAnew();
        due("20: no BLOCKS", x.carried(0, 0), STATE);
        x.block(0, 0, 0);
        due("20: STATE goes first", x.carried(-1, 9), STATE);
        for (int i = 1; i < 5; i++) {
            x.block(0, 0, 0);
        }
        int[][] orders = {{0, 1, 2, 3, 4}, {1, 0, 2, 3, 4}, {4, 0, 1, 2, 3}, {1, 2, 0, 4, 3}, {2, 1, 0, 3, 4}, {0, 1, 4, 3, 2}};
        int[][] want = {{0, 0, 0}, {2, 1, 2}, {8, 4, 5}, {6, 3, 4}, {4, 1, 2}, {4, 1, 4}};
        for (int i = 0; i < orders.length; i++) {
            for (int what = 0; what < 3; what++) {
                due("20: carried " + i + " " + what, x.carried(Checks.order(orders[i]), what), want[i][what]);
            }
        }
        x.lay(Checks.order(4, 0, 1, 2, 3));
        due("20: from where they lie now", x.carried(Checks.order(0, 1, 2, 3, 4), 0), 8);
        due("20: they stay there", x.at(0), 4);
        for (int what : new int[] {-1, 3, LEAST, MOST}) {
            due("20: what " + what, x.carried(Checks.order(0, 1, 2, 3, 4), what), OUTSIDE);
        }
        for (int order : new int[] {0, -1, LEAST, MOST, Checks.order(0, 1, 2, 3), Checks.order(0, 1, 2, 3, 3)}) {
            due("20: no ORDER " + order, x.carried(order, 0), OUTSIDE);
        }
        PavedAnew n = street("n", 0, 0);
        due("20: LAWFUL or not", n.carried(Checks.order(1, 0), 1), 1);
    }

    // 21
    private void flood() {
        PavedAnew x = new PavedAnew();
        due("21: no BLOCKS", x.flood(1), STATE);
        x.block(0, 1, 2);
        due("21: STATE goes first", x.flood(-1), STATE);
        x.block(0, 3, 4);
        // from 0 on the SEEDS are 12345 and 1406932606: the first DRAW is 0, the second 21468, even
        due("21: the SEED then", x.flood(0), 1406932606);
        due("21: they change", x.at(0), 1);
        due("21: the other one", x.at(1), 0);
        due("21: not turned", x.about(0, 1), 1);
        for (int seed : new int[] {-1, LEAST}) {
            refused(x, "21: seed " + seed, x.digest(), x.flood(seed), OUTSIDE);
        }
        floodsByHand();
    }

    private void floodsByHand() {
        for (int seed : new int[] {0, 1, 7, 91, 1000, MOST}) {
            PavedAnew x = new PavedAnew();
            int[] lie = new int[7];
            int[] heads = new int[7];
            for (int block = 0; block < 7; block++) {
                x.block(4 - block % 5, 10 + block, 0);
                lie[block] = block;
            }
            long drawn = seed;
            for (int p = 6; p >= 1; p--) {
                drawn = (drawn * 1103515245L + 12345L) % 2147483648L;
                int q = (int) (drawn / 65536 % (p + 1));
                int other = lie[q];
                lie[q] = lie[p];
                lie[p] = other;
                drawn = (drawn * 1103515245L + 12345L) % 2147483648L;
                heads[lie[p]] = (int) (drawn / 65536 % 2);
            }
            due("21: flood " + seed, x.flood(seed), drawn);
            for (int p = 0; p < 7; p++) {
                due("21: at " + p, x.at(p), lie[p]);
                due("21: turned " + p, x.about(p, 1), heads[p] == 1 ? 0 : 10 + p);
            }
        }
    }

    // 22
    private void looks() {
        PavedAnew x = new PavedAnew();
        due("22: no BLOCKS", x.looks(), STATE);
        x.block(1, 0, 0);
        due("22: one BLOCK", x.looks(), STATE);
        x.block(4, 0, 0);
        due("22: an OAK and a MARKED are two KINDS", x.looks(), 0);
        x.block(1, 0, 0);
        due("22: two OAKS", x.looks(), 1);
        x.block(1, 0, 0);
        x.block(4, 0, 0);
        due("22: three and two", x.looks(), 3);
        due("22: all of one KIND", street("", 0, 0, 0, 0, 0, 0, 0).looks(), 6);
        due("22: all KINDS", street("", 0, 1, 2, 3, 4).looks(), 0);
    }

    // 23
    private void was() {
        PavedAnew x = new PavedAnew();
        due("23: no BLOCK", x.was(0, 0), UNKNOWN);
        x.block(0, 5, 5);
        due("23: not known at first", x.was(0, 0), -1);
        due("23: 0", x.was(0, 999), 0);
        due("23: 999", x.was(0, -1), 999);
        due("23: -1 again", x.was(0, 3), -1);
        for (int v : new int[] {-2, 1000, LEAST, MOST}) {
            refused(x, "23: v " + v, x.digest(), x.was(0, v), OUTSIDE);
        }
        for (int block : new int[] {-1, 1, 7, LEAST, MOST}) {
            due("23: block " + block, x.was(block, -2), UNKNOWN);
        }
    }

    // 24
    private void last() {
        PavedAnew x = new PavedAnew();
        due("24: no BLOCKS", x.last(0), STATE);
        x.block(0, 14, 0);
        due("24: STATE goes first", x.last(7), STATE);
        x.block(1, 12, 0);
        x.block(2, 18, 0);
        setWheels(x, 4, 4, 7);
        due("24: nothing is known", x.last(0), 6);
        due("24: the first one", x.last(1), Checks.order(0, 1, 2));
        x.was(0, 10);
        due("24: BLOCK 0 lay in 0 or 1", x.last(0), 4);
        x.was(1, 8);
        due("24: the OAK in 2", x.last(0), 2);
        due("24: the first of two", x.last(1), Checks.order(0, 2, 1));
        x.was(2, 11);
        due("24: by nothing is a SPLIT worn by 7", x.last(0), 0);
        due("24: no first one", x.last(1), NONE);
        x.was(2, 10);
        due("24: by 4 twice", x.last(0), 2);
        for (int what : new int[] {-1, 2, LEAST, MOST}) {
            refused(x, "24: what " + what, x.digest(), x.last(what), OUTSIDE);
        }
        for (int i = x.count(4); i < 40; i++) {
            due("24: up to 40", i % 2 == 0 ? x.last(0) : x.sure(1), 2);
        }
        refused(x, "24: 40 were done", x.digest(), x.last(0), STATE);
        due("24: OUTSIDE goes ahead of that", x.last(2), OUTSIDE);
        PavedAnew full = street("n", 0, 0);
        full.turn(0);
        due("24: LAWFUL or not", full.last(0), 2);
        PavedAnew high = new PavedAnew();
        high.block(0, 999, 0);
        high.block(0, 999, 0);
        setWheels(high, 9, 1);
        high.was(0, 995);
        high.was(1, 998);
        due("24: 999 at most", high.last(1), Checks.order(0, 1));
        due("24: just one", high.last(0), 1);
    }

    // 25
    private void sure() {
        PavedAnew x = new PavedAnew();
        due("25: no BLOCK", x.sure(0), UNKNOWN);
        x.block(0, 14, 0);
        due("25: one BLOCK", x.sure(0), STATE);
        due("25: UNKNOWN goes first", x.sure(1), UNKNOWN);
        x.block(0, 17, 0);
        x.block(0, 14, 0);
        setWheels(x, 4, 4, 7);
        due("25: nothing is known", x.sure(0), NONE);
        x.was(1, 10);
        due("25: BLOCK 1 lay in 2", x.sure(1), 2);
        due("25: BLOCK 0 in either", x.sure(0), NONE);
        x.wheels(0, 3);
        x.was(0, 10);
        due("25: BLOCK 0 in 1", x.sure(0), 1);
        due("25: so BLOCK 2 in 0", x.sure(2), 0);
        x.was(2, 0);
        due("25: no ORDER at all", x.sure(0), NONE);
        due("25: they count", x.count(4), 6);
        for (int block : new int[] {-1, 3, LEAST, MOST}) {
            refused(x, "25: block " + block, x.digest(), x.sure(block), UNKNOWN);
        }
        for (int i = 6; i < 40; i++) {
            due("25: up to 40", x.sure(0), NONE);
        }
        refused(x, "25: 40 were done", x.digest(), x.sure(0), STATE);
        due("25: last(), too", x.last(0), STATE);
        due("25: UNKNOWN goes ahead of that", x.sure(3), UNKNOWN);
    }

    // 26
    private void springs() {
        PavedAnew x = underLaw("m1");
        due("26: no BLOCKS", x.springs(1, 0), STATE);
        x.block(0, 97, 100);
        due("26: STATE goes first", x.springs(0, 9), STATE);
        x.block(0, 90, 300);
        x.image();
        due("26: not yet", x.springs(2, 0), 0);
        due("26: not yet first", x.springs(2, 1), NONE);
        due("26: WORST then", x.springs(2, 2), 99);
        due("26: the third", x.springs(3, 0), 1);
        due("26: the first SPRING", x.springs(12, 1), 3);
        due("26: the other in the tenth", x.springs(12, 0), 2);
        due("26: new ones in the end", x.springs(12, 2), 9);
        due("26: it is not so yet", x.worst(), 97);
        due("26: they count", x.count(5), 7);
        for (int springs : new int[] {0, 13, -1, LEAST, MOST}) {
            refused(x, "26: springs " + springs, x.digest(), x.springs(springs, 0), OUTSIDE);
        }
        for (int what : new int[] {-1, 3, LEAST, MOST}) {
            refused(x, "26: what " + what, x.digest(), x.springs(1, what), OUTSIDE);
        }
        for (int i = 7; i < 10; i++) {
            due("26: up to 10", x.springs(1, 1), NONE);
        }
        refused(x, "26: 10 were done", x.digest(), x.springs(1, 0), STATE);
        due("26: OUTSIDE goes ahead of that", x.springs(0, 0), OUTSIDE);
    }

    private void springsWithLaw() {
        PavedAnew t = underLaw("t");
        t.block(0, 0, 0);
        t.block(4, 0, 0);
        setWheels(t, 4, 4);
        due("26: turned each time, the MARKED not", t.springs(6, 2), 12);
        PavedAnew stays = underLaw("ntm1");
        stays.block(0, 99, 0);
        stays.block(0, 0, 200);
        due("26: none is LAWFUL: not turned", stays.springs(1, 2), 100);
        setWheels(stays, 1, 9);
        due("26: both HEADS must be worn", stays.springs(11, 0), 0);
        due("26: the twelfth", stays.springs(12, 1), 12);
        PavedAnew burnt = underLaw("tm1");
        burnt.block(0, 100, 98);
        burnt.block(4, 0, 0);
        setWheels(burnt, 2, 2);
        due("26: BURNT in the first", burnt.springs(1, 1), 1);
        due("26: a new one lies there", burnt.springs(1, 2), 1);
        due("26: not worn on its other HEAD", burnt.springs(2, 2), 2);
        due("26: nor on this one", burnt.springs(3, 2), 3);
        PavedAnew never = new PavedAnew();
        never.block(0, 999, 999);
        never.block(0, 999, 999);
        due("26: without \"m\" none is BURNT", never.springs(12, 0), 0);
    }

    // 27
    private void image() {
        PavedAnew x = new PavedAnew();
        due("27: no BLOCKS", x.image(), 0);
        due("27: that is one, too", x.restore(), 0);
        x.block(0, 1, 1);
        due("27: one", x.image(), 1);
        x.block(0, 1, 1);
        x.block(0, 1, 1);
        due("27: three", x.image(), 3);
        x.thief(0);
        due("27: the latest", x.restore(), 3);
    }

    // 28
    private void restore() {
        PavedAnew x = new PavedAnew();
        due("28: none was kept", x.restore(), STATE);
        x.block(0, 1, 2);
        x.block(3, 4, 5);
        x.block(4, 6, 7);
        x.was(1, 9);
        x.wheels(6, 5);
        x.wheels(0, 3);
        x.lay(Checks.order(2, 0, 1));
        long before = x.digest();
        x.image();
        x.thief(0);
        x.block(2, 500, 500);
        x.years(3);
        x.flood(5);
        x.was(1, 77);
        x.was(0, 5);
        x.wheels(6, 0);
        x.wheels(0, 0);
        due("28: how many BLOCKS", x.restore(), 3);
        due("28: all is as it was", x.digest(), before);
        x.years(1);
        due("28: again", x.restore(), 3);
        due("28: as it was again", x.digest(), before);
        x.letters(Checks.word("nt"));
        x.law();
        x.letters('x');
        x.howMany();
        x.restore();
        due("28: THE LAW stays", x.lawTold(0), 1);
        due("28: THE PAGE stays", x.count(1), 1);
        due("28: what was done stays", x.count(3), 1);
    }

    // 29
    private void count() {
        PavedAnew x = new PavedAnew();
        x.law();
        x.law();
        x.letters(Checks.word("abc"));
        x.block(0, 0, 0);
        x.block(0, 0, 0);
        setWheels(x, 7, 6, 5);
        x.best(0);
        x.best(1);
        x.howMany();
        x.last(0);
        x.last(1);
        x.sure(0);
        x.sure(1);
        for (int i = 0; i < 5; i++) {
            x.springs(1, 0);
        }
        int[] want = {2, 3, 2, 3, 4, 5, 13};
        for (int what = 0; what < 7; what++) {
            due("29: count " + what, x.count(what), want[what]);
        }
        for (int what : new int[] {-1, 7, LEAST, MOST}) {
            due("29: count " + what, x.count(what), OUTSIDE);
        }
    }

    private static long digestOf(int... numbers) {
        long h = 599;
        for (int number : numbers) {
            h = 31 * h + number;
        }
        return h;
    }

    // 30
    private void digest() {
        PavedAnew x = new PavedAnew();
        due("30: a new object", x.digest(), digestOf(0, 0, 0, 10, 1, 1, 1, 1, 1, 1, 1, 0, 0, 0, 0, 0, 0, 0));
        x.block(2, 30, 40);
        due("30: one BLOCK", x.digest(),
                digestOf(0, 0, 0, 10, 2, 30, 40, 0, -1, 1, 1, 1, 1, 1, 1, 1, 1, 0, 0, 0, 0, 0, 1));
        x.letters(Checks.word("nm3"));
        x.law();
        x.block(2, 50, 60);
        x.was(1, 8);
        x.wheels(6, 9);
        x.letters(Checks.word("tn"));
        x.howMany();
        due("30: two BLOCKS", x.digest(),
                digestOf(1, 0, 0, 3, 2, 30, 40, 0, -1, 2, 50, 60, 1, 8, 1, 1, 1, 1, 1, 1, 9,
                        50, 1, 0, 2, 1, 1, 't', 'n', 2, 2, 1, 1, 0, 0, 2));
        due("30: it changes nothing", x.digest(), x.digest());
        x.blank();
        x.law();
        x.lay(Checks.order(1, 0));
        due("30: turned round from how they lie, LAWFUL", x.digest(),
                digestOf(0, 0, 0, 10, 2, 30, 40, 1, -1, 2, 50, 60, 0, 8, 1, 1, 1, 1, 1, 1, 9,
                        50, 1, 1, 2, 1, 1, 2, 0, 2, 1, 0, 0, 2));
    }
}
