import java.util.ArrayList;
import java.util.List;

/**
 * The document once more, as plainly as can be: every ORDER is made and looked at, one by one.
 * It is slow and careless with objects, and shares no code with PavedAnew.
 */
final class PlainStreet {
    static final int NONE = -1, UNKNOWN = -101, OUTSIDE = -102, STATE = -103, FULL = -104;

    static final class Wood {
        int kind, above, below, was = -1;

        Wood(int kind, int above, int below) {
            this.kind = kind;
            this.above = above;
            this.below = below;
        }

        Wood copy() {
            Wood w = new Wood(kind, above, below);
            w.was = was;
            return w;
        }

        void flip() {
            int a = above;
            above = below;
            below = a;
        }

        int wornBy(int head, int wheels) {
            double by = kind == 1 || kind == 4 ? Math.ceil(wheels / 2.0) : kind == 2 ? 2 * wheels : wheels;
            return Math.min(999, head + (int) by);
        }
    }

    /** Blocks by number, and the numbers by place. */
    static final class Lie {
        List<Wood> woods = new ArrayList<>();
        List<Integer> places = new ArrayList<>();
        int[] wheels = {1, 1, 1, 1, 1, 1, 1};

        Lie copy() {
            Lie l = new Lie();
            for (Wood w : woods) {
                l.woods.add(w.copy());
            }
            l.places.addAll(places);
            l.wheels = wheels.clone();
            return l;
        }

        int worst() {
            int most = 0;
            for (Wood w : woods) {
                most = Math.max(most, w.above);
            }
            return most;
        }

        void year() {
            for (int p = 0; p < places.size(); p++) {
                Wood w = woods.get(places.get(p));
                w.above = w.wornBy(w.above, wheels[p]);
            }
        }
    }

    String page = "";
    String law = "";
    Lie now = new Lie();
    Lie kept;
    int read, searched, lookedBack, foretold;

    // ---- the law

    static List<String> allLaws() {
        List<String> laws = new ArrayList<>();
        for (String n : new String[] {"", "n"}) {
            for (String t : new String[] {"", "t"}) {
                for (String w : new String[] {"", "w"}) {
                    laws.add(n + t + w);
                    for (int m = 1; m <= 9; m++) {
                        laws.add(n + t + w + "m" + m);
                    }
                }
            }
        }
        return laws;
    }

    static final List<String> LAWS = allLaws();

    int letters(long w) {
        StringBuilder more = new StringBuilder();
        boolean end = false;
        for (int i = 0; i < 8; i++) {
            int c = (int) (w >>> 8 * i & 0xff);
            if (c > 126 || end && c != 0) {
                return OUTSIDE;
            }
            if (c == 0) {
                end = true;
            } else {
                more.append((char) c);
            }
        }
        if (page.length() + more.length() > 16) {
            return FULL;
        }
        page += more;
        return page.length();
    }

    int blank() {
        int had = page.length();
        page = "";
        return had;
    }

    int fault() {
        for (int i = 0; i < page.length(); i++) {
            boolean some = false;
            for (String l : LAWS) {
                some |= l.startsWith(page.substring(0, i + 1));
            }
            if (!some) {
                return i;
            }
        }
        return page.length();
    }

    int law() {
        if (!LAWS.contains(page)) {
            return STATE;
        }
        law = page;
        page = "";
        return ++read;
    }

    int lawTold(int what) {
        switch (what) {
            case 0: return law.contains("n") ? 1 : 0;
            case 1: return law.contains("t") ? 1 : 0;
            case 2: return law.contains("w") ? 1 : 0;
            case 3: return law.contains("m") ? law.charAt(law.length() - 1) - '0' : 10;
            default: return OUTSIDE;
        }
    }

    // ---- blocks

    private boolean known(int b) {
        return b >= 0 && b < now.woods.size();
    }

    int block(int kind, int above, int below) {
        if (kind < 0 || kind > 4 || above < 0 || above > 999 || below < 0 || below > 999) {
            return OUTSIDE;
        }
        if (now.woods.size() == 7) {
            return FULL;
        }
        now.woods.add(new Wood(kind, above, below));
        now.places.add(now.woods.size() - 1);
        return now.woods.size() - 1;
    }

    int about(int b, int what) {
        if (!known(b)) {
            return UNKNOWN;
        }
        Wood w = now.woods.get(b);
        switch (what) {
            case 0: return w.kind;
            case 1: return w.above;
            case 2: return w.below;
            case 3: return now.places.indexOf(b);
            case 4: return w.was;
            default: return OUTSIDE;
        }
    }

    int as(int b, int kind) {
        if (!known(b)) {
            return UNKNOWN;
        }
        if (kind < 0 || kind > 4) {
            return OUTSIDE;
        }
        int is = now.woods.get(b).kind;
        return kind == 0 || is == kind || is == 4 && kind == 1 ? b : NONE;
    }

    int wheels(int p, int v) {
        if (p < 0 || p > 6) {
            return UNKNOWN;
        }
        if (v < 0 || v > 9) {
            return OUTSIDE;
        }
        int was = now.wheels[p];
        now.wheels[p] = v;
        return was;
    }

    int at(int p) {
        return known(p) ? now.places.get(p) : UNKNOWN;
    }

    int turn(int b) {
        if (!known(b)) {
            return UNKNOWN;
        }
        Wood w = now.woods.get(b);
        if (w.kind == 4) {
            return STATE;
        }
        w.flip();
        return w.above;
    }

    int thief(int b) {
        if (!known(b)) {
            return UNKNOWN;
        }
        if (now.woods.size() < 3) {
            return STATE;
        }
        now.woods.remove(b);
        now.places.remove(Integer.valueOf(b));
        now.places.replaceAll(x -> x > b ? x - 1 : x);
        return now.woods.size();
    }

    // ---- springs

    private boolean few() {
        return now.woods.size() < 2;
    }

    /** The places' blocks, or null. */
    private List<Integer> orderOf(int number) {
        int size = now.woods.size();
        if (number < 0) {
            return null;
        }
        String figures = Integer.toOctalString(number);
        while (figures.length() < size) {
            figures = "0" + figures;
        }
        List<Integer> order = new ArrayList<>();
        for (int i = figures.length() - 1; i >= 0; i--) {
            order.add(figures.charAt(i) - '0');
        }
        for (int b = 0; b < size; b++) {
            if (!order.contains(b)) {
                return null;
            }
        }
        return order.size() == size ? order : null;
    }

    private static int numberOf(List<Integer> order) {
        int number = 0;
        for (int p = order.size() - 1; p >= 0; p--) {
            number = 8 * number + order.get(p);
        }
        return number;
    }

    /** All orders of so many blocks, the first one first. */
    private static List<List<Integer>> orders(int size) {
        List<List<Integer>> all = new ArrayList<>();
        grow(new ArrayList<>(), size, all);
        return all;
    }

    private static void grow(List<Integer> begun, int size, List<List<Integer>> all) {
        if (begun.size() == size) {
            all.add(new ArrayList<>(begun));
            return;
        }
        for (int b = 0; b < size; b++) {
            if (!begun.contains(b)) {
                begun.add(b);
                grow(begun, size, all);
                begun.remove(begun.size() - 1);
            }
        }
    }

    private static final List<List<List<Integer>>> ORDERS = allOrders();

    private static List<List<List<Integer>>> allOrders() {
        List<List<List<Integer>>> all = new ArrayList<>();
        for (int size = 0; size <= 7; size++) {
            all.add(orders(size));
        }
        return all;
    }

    private boolean isLawful(Lie lie, List<Integer> order) {
        int size = order.size();
        if (law.contains("n")) {
            for (int p = 0; p + 1 < size; p++) {
                for (int q = 0; q + 1 < size; q++) {
                    int a = order.get(p), b = order.get(p + 1), c = lie.places.get(q), d = lie.places.get(q + 1);
                    if (a == c && b == d || a == d && b == c) {
                        return false;
                    }
                }
            }
        }
        if (law.contains("w")) {
            for (int p = 0; p < size; p++) {
                boolean left = p > 0 && lie.woods.get(order.get(p - 1)).kind == 3;
                boolean right = p < size - 1 && lie.woods.get(order.get(p + 1)).kind == 3;
                if (lie.woods.get(order.get(p)).kind == 3 && !left && !right) {
                    return false;
                }
            }
        }
        return true;
    }

    private void layDown(Lie lie, List<Integer> order) {
        lie.places = new ArrayList<>(order);
        if (law.contains("t")) {
            for (Wood w : lie.woods) {
                if (w.kind != 4) {
                    w.flip();
                }
            }
        }
    }

    private List<List<Integer>> lawfulOnes(Lie lie) {
        List<List<Integer>> some = new ArrayList<>();
        for (List<Integer> order : ORDERS.get(lie.woods.size())) {
            if (isLawful(lie, order)) {
                some.add(order);
            }
        }
        return some;
    }

    private int worstBehind(Lie lie, List<Integer> order) {
        Lie then = lie.copy();
        layDown(then, order);
        then.year();
        return then.worst();
    }

    private List<Integer> bestOf(Lie lie) {
        List<Integer> best = null;
        int least = Integer.MAX_VALUE;
        for (List<Integer> order : lawfulOnes(lie)) {
            int worst = worstBehind(lie, order);
            if (worst < least) {
                least = worst;
                best = order;
            }
        }
        return best;
    }

    int lay(int number) {
        if (few()) {
            return STATE;
        }
        List<Integer> order = orderOf(number);
        if (order == null) {
            return OUTSIDE;
        }
        if (!isLawful(now, order)) {
            return STATE;
        }
        layDown(now, order);
        return now.worst();
    }

    int lawful(int number) {
        if (few()) {
            return STATE;
        }
        List<Integer> order = orderOf(number);
        return order == null ? OUTSIDE : isLawful(now, order) ? 1 : 0;
    }

    int years(int years) {
        if (few()) {
            return STATE;
        }
        if (years < 1 || years > 99) {
            return OUTSIDE;
        }
        for (int y = 0; y < years; y++) {
            now.year();
        }
        return now.worst();
    }

    int worst() {
        return few() ? STATE : now.worst();
    }

    int best(int what) {
        if (few()) {
            return STATE;
        }
        if (what != 0 && what != 1) {
            return OUTSIDE;
        }
        if (searched == 40) {
            return STATE;
        }
        searched++;
        List<Integer> best = bestOf(now);
        return best == null ? NONE : what == 0 ? worstBehind(now, best) : numberOf(best);
    }

    int howMany() {
        if (few() || searched == 40) {
            return STATE;
        }
        searched++;
        return lawfulOnes(now).size();
    }

    int carried(int number, int what) {
        if (few()) {
            return STATE;
        }
        List<Integer> order = orderOf(number);
        if (order == null || what < 0 || what > 2) {
            return OUTSIDE;
        }
        return carriedTo(order, what);
    }

    private int carriedTo(List<Integer> order, int what) {
        int left = 0, right = 0;
        for (int p = 0; p < order.size(); p++) {
            int way = Math.abs(p - now.places.indexOf(order.get(p)));
            if (p < order.size() / 2) {
                left += way;
            } else {
                right += way;
            }
        }
        return what == 0 ? left + right : what == 2 ? Math.max(left, right) : exchanges(order);
    }

    /** Each exchange that brings a block where it goes is one of the fewest. */
    private int exchanges(List<Integer> order) {
        List<Integer> lie = new ArrayList<>(now.places);
        int done = 0;
        for (int p = 0; p < order.size(); p++) {
            int from = lie.indexOf(order.get(p));
            if (from != p) {
                lie.set(from, lie.get(p));
                lie.set(p, order.get(p));
                done++;
            }
        }
        return done;
    }

    private long seed;

    private int draw(int of) {
        seed = Math.floorMod(1103515245L * seed + 12345L, 2147483648L);
        return (int) (Math.floorDiv(seed, 65536L) % of);
    }

    int flood(int from) {
        if (few()) {
            return STATE;
        }
        if (from < 0) {
            return OUTSIDE;
        }
        seed = from;
        for (int p = now.places.size() - 1; p >= 1; p--) {
            int q = draw(p + 1);
            Integer in = now.places.get(p);
            now.places.set(p, now.places.get(q));
            now.places.set(q, in);
            if (draw(2) == 1) {
                now.woods.get(now.places.get(p)).flip();
            }
        }
        return (int) seed;
    }

    int looks() {
        if (few()) {
            return STATE;
        }
        int looks = 0;
        for (int kind = 0; kind < 5; kind++) {
            int of = 0;
            for (Wood w : now.woods) {
                of += w.kind == kind ? 1 : 0;
            }
            looks += Math.max(0, of - 1);
        }
        return looks;
    }

    // ---- last year, springs to come

    int was(int b, int v) {
        if (!known(b)) {
            return UNKNOWN;
        }
        if (v < -1 || v > 999) {
            return OUTSIDE;
        }
        int before = now.woods.get(b).was;
        now.woods.get(b).was = v;
        return before;
    }

    private List<List<Integer>> lastOnes() {
        List<List<Integer>> some = new ArrayList<>();
        for (List<Integer> order : ORDERS.get(now.woods.size())) {
            boolean fits = true;
            for (int p = 0; p < order.size(); p++) {
                Wood w = now.woods.get(order.get(p));
                fits &= w.was == -1 || w.wornBy(w.was, now.wheels[p]) == w.above;
            }
            if (fits) {
                some.add(order);
            }
        }
        return some;
    }

    int last(int what) {
        if (few()) {
            return STATE;
        }
        if (what != 0 && what != 1) {
            return OUTSIDE;
        }
        if (lookedBack == 40) {
            return STATE;
        }
        lookedBack++;
        List<List<Integer>> some = lastOnes();
        return what == 0 ? some.size() : some.isEmpty() ? NONE : numberOf(some.get(0));
    }

    int sure(int b) {
        if (!known(b)) {
            return UNKNOWN;
        }
        if (few() || lookedBack == 40) {
            return STATE;
        }
        lookedBack++;
        int place = NONE;
        for (List<Integer> order : lastOnes()) {
            int here = order.indexOf(b);
            if (place != NONE && place != here) {
                return NONE;
            }
            place = here;
        }
        return place;
    }

    int springs(int springs, int what) {
        if (few()) {
            return STATE;
        }
        if (springs < 1 || springs > 12 || what < 0 || what > 2) {
            return OUTSIDE;
        }
        if (foretold == 10) {
            return STATE;
        }
        foretold++;
        Lie lie = now.copy();
        int bought = 0, first = NONE, most = 100 * lawTold(3);
        for (int s = 1; s <= springs; s++) {
            List<Integer> best = bestOf(lie);
            if (best != null) {
                layDown(lie, best);
            }
            lie.year();
            for (Wood w : lie.woods) {
                if (w.above >= most && w.below >= most) {
                    w.above = 0;
                    w.below = 0;
                    bought++;
                    first = first == NONE ? s : first;
                }
            }
        }
        return what == 0 ? bought : what == 1 ? first : lie.worst();
    }

    // ---- what is told

    int image() {
        kept = now.copy();
        return now.woods.size();
    }

    int restore() {
        if (kept == null) {
            return STATE;
        }
        now = kept.copy();
        return now.woods.size();
    }

    int count(int what) {
        int wheels = 0;
        for (int p = 0; p < now.places.size(); p++) {
            wheels += now.wheels[p];
        }
        int[] told = {now.woods.size(), page.length(), read, searched, lookedBack, foretold, wheels};
        return what < 0 || what > 6 ? OUTSIDE : told[what];
    }

    long digest() {
        List<Integer> told = new ArrayList<>();
        for (int what = 0; what < 4; what++) {
            told.add(lawTold(what));
        }
        for (int b = 0; b < now.woods.size(); b++) {
            for (int what = 0; what < 5; what++) {
                told.add(about(b, what));
            }
        }
        for (int w : now.wheels) {
            told.add(w);
        }
        if (!few()) {
            List<Integer> round = new ArrayList<>();
            for (int b : now.places) {
                round.add(0, b);
            }
            told.add(worst());
            told.add(looks());
            told.add(isLawful(now, round) ? 1 : 0);
            for (int what = 0; what < 3; what++) {
                told.add(carriedTo(round, what));
            }
        }
        for (char c : page.toCharArray()) {
            told.add((int) c);
        }
        for (int what = 0; what < 7; what++) {
            told.add(count(what));
        }
        long h = 599;
        for (int number : told) {
            h = 31 * h + number;
        }
        return h;
    }
}
