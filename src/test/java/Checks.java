/** Counts and prints answers that are not as due. */
final class Checks {
    private final String name;
    private int made;
    private int wrong;

    Checks(String name) {
        this.name = name;
    }

    void due(String call, long got, long want) {
        made++;
        if (got != want) {
            wrong++;
            System.out.println(name + ": " + call + " answered " + got + ", due is " + want);
        }
    }

    void holds(String what, boolean is) {
        due(what, is ? 1 : 0, 1);
    }

    void end() {
        System.out.println(name + ": " + made + " checks, " + wrong + " wrong");
        if (wrong != 0 || made == 0) {
            System.exit(1);
        }
    }

    /** The number that tells up to eight letters. */
    static long word(String text) {
        long w = 0;
        for (int i = text.length() - 1; i >= 0; i--) {
            w = w << 8 | text.charAt(i);
        }
        return w;
    }

    /** The number that tells an ORDER, the BLOCK for PLACE 0 first. */
    static int order(int... blocks) {
        int number = 0;
        for (int i = blocks.length - 1; i >= 0; i--) {
            number = number * 8 + blocks[i];
        }
        return number;
    }
}
