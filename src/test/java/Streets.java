import java.util.ArrayList;
import java.util.List;

/** Objects to test with, and all that can be told of one. */
final class Streets {
    private Streets() {
    }

    static PavedAnew underLaw(String text) {
        PavedAnew x = new PavedAnew();
        write(x, text);
        x.law();
        return x;
    }

    static PavedAnew withPage(String text) {
        PavedAnew x = new PavedAnew();
        write(x, text);
        return x;
    }

    static void write(PavedAnew x, String text) {
        for (int i = 0; i < text.length(); i += 8) {
            x.letters(Checks.word(text.substring(i, Math.min(text.length(), i + 8))));
        }
    }

    /** BLOCKS of these KINDS, not worn. */
    static PavedAnew of(String law, int... kinds) {
        PavedAnew x = underLaw(law);
        for (int kind : kinds) {
            x.block(kind, 0, 0);
        }
        return x;
    }

    /** So many BLOCKS, all of KIND 0, not worn. */
    static PavedAnew plain(String law, int blocks) {
        return of(law, new int[blocks]);
    }

    /** BLOCKS of KIND 0 whose HEADS above are worn so, the others not. */
    static PavedAnew worn(String law, int... above) {
        PavedAnew x = underLaw(law);
        for (int wear : above) {
            x.block(0, wear, 0);
        }
        return x;
    }

    static void wheels(PavedAnew x, int... wheels) {
        for (int place = 0; place < wheels.length; place++) {
            x.wheels(place, wheels[place]);
        }
    }

    static void was(PavedAnew x, int... wear) {
        for (int block = 0; block < wear.length; block++) {
            x.was(block, wear[block]);
        }
    }

    /** Something of everything, so that whatever a refused call might change can be seen. */
    static PavedAnew rich(String law, int blocks) {
        PavedAnew x = underLaw(law);
        x.block(4, 800, 700);
        x.image();
        x = blocks == 0 ? underLaw(law) : x;
        for (int block = 1; block < blocks; block++) {
            x.block(block * 2 % 5, 97 * block, 500 - 41 * block);
        }
        wheels(x, 3, 7, 0, 2, 9, 5, 4);
        was(x, 799, -1, 190);
        x.flood(3);
        x.turn(1);
        x.best(0);
        x.last(0);
        x.springs(1, 0);
        write(x, "ntx");
        return x;
    }

    /** The ORDER in which the BLOCKS of each PLACE lie, the last one first. */
    static int turnedRound(PavedAnew x) {
        int order = 0;
        for (int place = 0; place < x.count(0); place++) {
            order = order * 8 + x.at(place);
        }
        return order;
    }

    /** The ORDER 0, 1, 2 .. of so many BLOCKS. */
    static int inOrder(int blocks) {
        int order = 0;
        for (int block = blocks - 1; block >= 0; block--) {
            order = order * 8 + block;
        }
        return order;
    }

    /** The ORDER 0, 1, 2 .. but for two PLACES whose BLOCKS are exchanged. */
    static int exchanged(int blocks, int place, int other) {
        int[] order = new int[blocks];
        for (int p = 0; p < blocks; p++) {
            order[p] = p == place ? other : p == other ? place : p;
        }
        return Checks.order(order);
    }

    /** What every call tells, those that change something last; the object is of no more use then. */
    static long[] allTold(PavedAnew x) {
        List<Long> told = new ArrayList<>();
        told.add(x.digest());
        told.add((long) x.fault());
        for (int what = 0; what <= 6; what++) {
            told.add((long) x.count(what));
        }
        for (int number = 0; number <= 6; number++) {
            told.add((long) x.at(number));
            for (int what = 0; what <= 4; what++) {
                told.add((long) x.about(number, what));
            }
        }
        tellSearches(x, told);
        tellChanges(x, told);
        long[] row = new long[told.size()];
        for (int i = 0; i < row.length; i++) {
            row[i] = told.get(i);
        }
        return row;
    }

    private static void tellSearches(PavedAnew x, List<Long> told) {
        told.add((long) x.worst());
        told.add((long) x.looks());
        told.add((long) x.lawful(turnedRound(x)));
        told.add((long) x.carried(turnedRound(x), 0));
        told.add((long) x.howMany());
        told.add((long) x.best(1));
        told.add((long) x.best(0));
        told.add((long) x.last(0));
        told.add((long) x.last(1));
        told.add((long) x.sure(0));
        told.add((long) x.springs(2, 2));
        told.add(x.digest());
    }

    private static void tellChanges(PavedAnew x, List<Long> told) {
        told.add((long) x.flood(7));
        told.add((long) x.years(2));
        told.add((long) x.block(1, 2, 3));
        told.add(x.digest());
        told.add((long) x.thief(0));
        told.add(x.digest());
        told.add((long) x.restore());
        told.add(x.digest());
        told.add((long) x.law());
        told.add((long) x.blank());
        told.add((long) x.law());
        told.add(x.digest());
    }
}
