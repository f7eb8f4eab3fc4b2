import java.util.ArrayList;
import java.util.Collections;
import java.util.List;
import java.util.Random;

/** Drawn runs of calls, each answer held against that of PlainStreet. The draws are the same each time. */
public final class OracleTest {
    private static final int RUNS = 520;
    // beyond these the document leaves the answers free
    private static final int CALLS = 512;
    private static final int MOST_IN_A_ROUND = 14;
    private static final int[] EDGES = {
        -1, 0, 1, 2, 3, 4, 5, 6, 7, 8, 9, 10, 12, 13, 99, 100, 998, 999, 1000, Integer.MAX_VALUE, Integer.MIN_VALUE};

    private final Checks checks = new Checks("OracleTest");
    private final Random draws = new Random(20261118);
    private PavedAnew real;
    private PlainStreet plain;
    private String told;
    private int calls;

    public static void main(String[] args) {
        OracleTest test = new OracleTest();
        for (int run = 0; run < RUNS; run++) {
            test.run(run);
        }
        test.checks.end();
    }

    private void run(int run) {
        real = new PavedAnew();
        plain = new PlainStreet();
        int few = draws.nextInt(3) == 0 ? 4 : 7;
        calls = 0;
        for (int round = 0; calls + MOST_IN_A_ROUND <= CALLS; round++) {
            told = "run " + run + ", round " + round + ": ";
            if (plain.now.woods.size() > few) {
                same("thief", real.thief(0), plain.thief(0));
            }
            call(draws.nextInt(44));
            if (round % 8 == 0) {
                same("digest", real.digest(), plain.digest());
            }
        }
    }

    private void same(String call, long got, long want) {
        calls++;
        checks.due(told + call, got, want);
    }

    private int edge() {
        return EDGES[draws.nextInt(EDGES.length)];
    }

    /** Mostly a number from least to most; sometimes any. */
    private int number(int least, int most) {
        return draws.nextInt(10) == 0 ? edge() : least + draws.nextInt(most - least + 1);
    }

    private int blockNumber() {
        return number(0, Math.max(1, plain.now.woods.size()) - 1);
    }

    private int wear() {
        return draws.nextInt(4) == 0 ? number(900, 999) : number(0, draws.nextBoolean() ? 20 : 400);
    }

    private int orderNumber() {
        if (draws.nextInt(12) == 0) {
            return draws.nextBoolean() ? edge() : draws.nextInt();
        }
        List<Integer> order = new ArrayList<>();
        for (int b = 0; b < plain.now.woods.size(); b++) {
            order.add(b);
        }
        Collections.shuffle(order, draws);
        int number = 0;
        for (int b : order) {
            number = 8 * number + b;
        }
        return draws.nextInt(12) == 0 ? number + (1 << draws.nextInt(31)) : number;
    }

    private long text() {
        switch (draws.nextInt(6)) {
            case 0: return draws.nextLong();
            case 1: return draws.nextInt(128);
            case 2: return Checks.word("" + "ntwm0129".charAt(draws.nextInt(8)));
            default: return Checks.word(PlainStreet.LAWS.get(draws.nextInt(PlainStreet.LAWS.size())));
        }
    }

    private void call(int which) {
        if (which < 22) {
            change(which);
        } else {
            ask(which);
        }
    }

    private void change(int which) {
        int a = blockNumber();
        int v = wear();
        switch (which) {
            case 0: case 1: long w = text(); same("letters " + w, real.letters(w), plain.letters(w)); break;
            case 2: same("blank", real.blank(), plain.blank()); break;
            case 3: case 4: same("law", real.law(), plain.law()); break;
            case 5: case 6: case 7: case 8:
                int kind = number(0, 4);
                int below = wear();
                same("block " + kind + " " + v + " " + below, real.block(kind, v, below), plain.block(kind, v, below));
                break;
            case 9: case 10:
                int place = number(0, 6);
                int wheels = number(0, draws.nextBoolean() ? 9 : 2);
                same("wheels " + place + " " + wheels, real.wheels(place, wheels), plain.wheels(place, wheels));
                break;
            case 11: case 12: same("turn " + a, real.turn(a), plain.turn(a)); break;
            case 13: same("thief " + a, real.thief(a), plain.thief(a)); break;
            case 14: case 15:
                int order = orderNumber();
                same("lay " + order, real.lay(order), plain.lay(order));
                break;
            case 16: int years = number(1, 3); same("years " + years, real.years(years), plain.years(years)); break;
            case 17: int seed = draws.nextInt(); same("flood " + seed, real.flood(seed), plain.flood(seed)); break;
            case 18: same("image", real.image(), plain.image()); break;
            case 19: if (draws.nextInt(3) == 0) same("restore", real.restore(), plain.restore()); break;
            case 20: same("was " + a + " " + v, real.was(a, v), plain.was(a, v)); break;
            default: recall(); break;
        }
    }

    /** Tells of the blocks what they were a year ago in some order, so that LAST has something to find. */
    private void recall() {
        int size = plain.now.woods.size();
        for (int b = 0; b < size; b++) {
            PlainStreet.Wood wood = plain.now.woods.get(b);
            int wheels = plain.now.wheels[(plain.now.places.indexOf(b) + draws.nextInt(2)) % size];
            int v = wood.above - (wood.wornBy(0, wheels));
            v = draws.nextInt(5) == 0 ? -1 : v;
            same("was " + b + " " + v, real.was(b, v), plain.was(b, v));
        }
        int b = blockNumber();
        same("last 0", real.last(0), plain.last(0));
        same("last 1", real.last(1), plain.last(1));
        same("sure " + b, real.sure(b), plain.sure(b));
    }

    private void ask(int which) {
        int a = blockNumber();
        int what = number(0, 6);
        int order = orderNumber();
        switch (which) {
            case 22: same("fault", real.fault(), plain.fault()); break;
            case 23: same("lawTold " + what, real.lawTold(what), plain.lawTold(what)); break;
            case 24: case 25: same("about " + a + " " + what, real.about(a, what), plain.about(a, what)); break;
            case 26: same("as " + a + " " + what, real.as(a, what), plain.as(a, what)); break;
            case 27: same("at " + what, real.at(what), plain.at(what)); break;
            case 28: case 29: same("lawful " + order, real.lawful(order), plain.lawful(order)); break;
            case 30: same("worst", real.worst(), plain.worst()); break;
            case 31: case 32: int of = number(0, 1); same("best " + of, real.best(of), plain.best(of)); break;
            case 33: same("howMany", real.howMany(), plain.howMany()); break;
            case 34: case 35: case 36:
                int c = number(0, 2);
                same("carried " + order + " " + c, real.carried(order, c), plain.carried(order, c));
                break;
            case 37: same("looks", real.looks(), plain.looks()); break;
            case 38: int l = number(0, 1); same("last " + l, real.last(l), plain.last(l)); break;
            case 39: same("sure " + a, real.sure(a), plain.sure(a)); break;
            case 40:
                int springs = number(1, 12);
                int s = number(0, 2);
                same("springs " + springs + " " + s, real.springs(springs, s), plain.springs(springs, s));
                break;
            case 41: case 42: same("count " + what, real.count(what), plain.count(what)); break;
            default: same("digest", real.digest(), plain.digest()); break;
        }
    }
}
