/** What the tests of the boundary cases share, whatever part of the document they are about. */
abstract class BoundaryPart {
    static final int UNKNOWN = -1, OUTSIDE = -2, STATE = -3, FULL = -4, NO = -5, NONE = -6, FAULT = -7;
    static final int MIN = Integer.MIN_VALUE, MAX = Integer.MAX_VALUE;
    /** How many GRIDS there are: 24 times 24 times 24 times 24. */
    static final int ALL = 331776;
    /** Both sides of the ITEMS 0 to 15, and of what a hasty test takes for one of them. */
    static final int[] NO_ITEMS = {MIN, MIN + 1, -16, -2, -1, 16, 17, 32, 256, 65536, MAX - 1, MAX};
    static final int[] NO_IMAGES = {MIN, MIN + 1, -2, -1, 2, 3, 31, 32, 33, 256, MAX - 1, MAX};

    /** x, y and z of three categories: any three, and each of x, y, z in the last of them. */
    static final String[][] THREES = {
        {"a1", "b2", "c3"}, {"b1", "c2", "a3"}, {"c1", "a2", "b3"},
        {"a2", "b3", "d4"}, {"b2", "d3", "a4"}, {"d2", "a3", "b4"},
        {"a3", "c4", "d1"}, {"c3", "d4", "a1"}, {"d3", "a4", "c1"},
        {"b4", "c1", "d2"}, {"c4", "d1", "b2"}, {"d4", "b1", "c2"}
    };

    private final Boundary boundary;

    BoundaryPart(Boundary boundary) {
        this.boundary = boundary;
    }

    abstract void run();

    void sentence(String part, String words) {
        boundary.sentence(part, words);
    }

    void due(String call, long got, long want) {
        boundary.due(call, got, want);
    }

    void same(String what, String got, String want) {
        boundary.same(what, got, want);
    }

    static String name(int item) {
        return "" + "abcd".charAt(item / 4) + "1234".charAt(item % 4);
    }

    /** Twelve clues by which each item has a place: 1 to 4, in each category. */
    static Riddle solved() {
        return Riddle.with("a1@1", "a2@2", "a3@3", "b1@1", "b2@2", "b3@3",
            "c1@1", "c2@2", "c3@3", "d1@1", "d2@2", "d3@3");
    }

    /** Twelve clues that every GRID meets. */
    static Riddle idle() {
        return Riddle.with("a1!a2", "a1!a3", "a1!a4", "a2!a3", "a2!a4", "a3!a4",
            "b1!b2", "b1!b3", "b1!b4", "b2!b3", "b2!b4", "b3!b4");
    }

    void stepsAre(Riddle x, int[]... want) {
        due("step(-1, 0)", x.step(-1, 0), want.length);
        for (int k = 0; k < want.length; k++) {
            stepIs(x, k, want[k]);
        }
    }

    void stepIs(Riddle x, int k, int... want) {
        for (int what = 0; what < 4; what++) {
            due("step(" + k + ", " + what + ")", x.step(k, what), want[what]);
        }
    }

    static int[] is(int rule, int clue, int item, int place) {
        return new int[] {rule, clue, item, place};
    }
}
