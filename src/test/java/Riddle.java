/** A GridRiddles whose calls are counted, so that no test leans on what is free behind the 512th call. */
final class Riddle {
    static final int MOST_CALLS = 512;

    private final GridRiddles made = new GridRiddles();
    private int calls = 0;

    static Riddle with(String... clues) {
        Riddle riddle = new Riddle();
        for (String clue : clues) {
            riddle.add(clue);
        }
        return riddle;
    }

    Riddle add(String clue) {
        text(clue);
        if (clue() < 0) {
            throw new IllegalStateException("the clue " + clue + " of a test was refused");
        }
        return this;
    }

    Riddle text(String signs) {
        for (int i = 0; i < signs.length(); i++) {
            say(signs.charAt(i));
        }
        return this;
    }

    /** All that can be seen of the clues and of what follows from them, without a change. */
    String seen() {
        StringBuilder all = new StringBuilder();
        for (int what = 10; what <= 16; what++) {
            all.append(count(what)).append(' ');
        }
        int clues = count(0);
        for (int clue = 0; clue < clues; clue++) {
            all.append("| ");
            for (int what = 0; what <= 4; what++) {
                all.append(told(clue, what)).append(' ');
            }
        }
        all.append("| ").append(answers()).append(' ').append(needless()).append(' ').append(core()).append(' ')
            .append(step(-1, 0)).append(' ').append(end()).append(" | ");
        for (int item = 0; item < 16; item++) {
            all.append(left(item, 64)).append(' ').append(answer(0, item)).append(' ');
        }
        return all.toString();
    }

    /** The same, and THE TEXT and the IMAGES too, which cannot be seen without a change. */
    String laidOpen() {
        StringBuilder all = new StringBuilder(seen());
        all.append("IMAGES ").append(count(3)).append(" TEXT ").append(count(1)).append(' ').append(fault());
        if (count(0) == 12) {
            drop(0);
        }
        int clue = clue();
        all.append(" is ").append(clue);
        for (int what = 0; what <= 4; what++) {
            all.append(' ').append(told(clue, what));
        }
        all.append(" had ").append(wipe());
        for (int k = 0; k < 2; k++) {
            all.append(" restore ").append(restore(k)).append(": ").append(seen());
        }
        return all.toString();
    }

    int calls() {
        return calls;
    }

    private GridRiddles next() {
        calls++;
        if (calls > MOST_CALLS) {
            throw new IllegalStateException("a test uses an object for more than 512 calls");
        }
        return made;
    }

    int say(int sign) {
        return next().say(sign);
    }

    int wipe() {
        return next().wipe();
    }

    int fault() {
        return next().fault();
    }

    int clue() {
        return next().clue();
    }

    int drop(int clue) {
        return next().drop(clue);
    }

    int told(int clue, int what) {
        return next().told(clue, what);
    }

    int answers() {
        return next().answers();
    }

    int answer(int i, int item) {
        return next().answer(i, item);
    }

    int often(int item, int place) {
        return next().often(item, place);
    }

    int together(int one, int other) {
        return next().together(one, other);
    }

    int met(int set) {
        return next().met(set);
    }

    int needless() {
        return next().needless();
    }

    int core() {
        return next().core();
    }

    int trim() {
        return next().trim();
    }

    int step(int k, int what) {
        return next().step(k, what);
    }

    int left(int item, int k) {
        return next().left(item, k);
    }

    int end() {
        return next().end();
    }

    int image(int k) {
        return next().image(k);
    }

    int restore(int k) {
        return next().restore(k);
    }

    int count(int what) {
        return next().count(what);
    }
}
