/** Runs of calls, drawn from fixed seeds, on the program and on the model: each answer must be the same. */
public final class ModelTest {
    private static final Checks CHECKS = new Checks("ModelTest");
    private static final int[] EDGES = {
        Integer.MIN_VALUE, -1000, -8, -7, -6, -5, -4, -3, -2, -1, 0, 1, 2, 3, 4, 5, 9, 10, 11, 12, 13, 15, 16, 17,
        31, 32, 33, 63, 64, 126, 127, 4095, 4096, 331775, 331776, 1 << 24, Integer.MAX_VALUE
    };

    private static final int CALLS_DRAWN = 240, MOST_CALLS = 512;

    private final int seed;
    private long state;
    private final GridRiddles program = new GridRiddles();
    private final Model model = new Model();
    private int calls = 0;
    /** The places by which clues are chosen that have an answer; null: clues are chosen without regard. */
    private int[] hidden = null;

    private ModelTest(int seed) {
        this.seed = seed;
        this.state = seed * 0x9E3779B97F4A7C15L + 12345;
    }

    public static void main(String[] args) {
        for (int seed = 1; seed <= 300 && !CHECKS.anyWrong(); seed++) {
            new ModelTest(seed).run();
        }
        CHECKS.close();
    }

    private int draw(int bound) {
        state = state * 6364136223846793005L + 1442695040888963407L;
        return (int) ((state >>> 33) % bound);
    }

    private int edge() {
        return EDGES[draw(EDGES.length)];
    }

    private int near(int low, int high) {
        return draw(12) == 0 ? edge() : low + draw(high - low + 1);
    }

    private void run() {
        if (seed % 2 == 0) {
            hidden = new int[16];
            for (int category = 0; category < 4; category++) {
                shuffleHidden(4 * category);
            }
        }
        while (calls < CALLS_DRAWN) {
            switch (draw(7)) {
                case 0:
                case 1: writeClue(); break;
                case 2: writeNonsense(); break;
                case 3: changeClues(); break;
                default: ask(); break;
            }
        }
        askAllOver();
        CHECKS.holds("seed " + seed + " keeps to 512 calls: " + calls, calls <= MOST_CALLS);
    }

    private void shuffleHidden(int first) {
        for (int i = 0; i < 4; i++) {
            int j = draw(i + 1);
            hidden[first + i] = hidden[first + j];
            hidden[first + j] = i + 1;
        }
    }

    private String drawText() {
        int x = draw(16);
        int y = draw(16);
        switch (draw(4)) {
            case 0: return Model.name(x) + "=" + Model.name(y) + "|" + Model.name(draw(16));
            case 1: return draw(3) > 0 ? drawText() : Model.name(x) + "@" + (1 + draw(4));
            default: return Model.name(x) + "=!<+~".charAt(draw(5)) + Model.name(y);
        }
    }

    private boolean fitsHidden(String text) {
        int x = hiddenAt(text, 0);
        if (text.charAt(2) == '@') {
            return x == text.charAt(3) - '0';
        }
        int y = hiddenAt(text, 3);
        switch (text.charAt(2)) {
            case '=': return x == y || text.length() == 8 && x == hiddenAt(text, 6);
            case '!': return x != y;
            case '<': return x < y;
            case '+': return x + 1 == y;
            default: return Math.abs(x - y) == 1;
        }
    }

    private int hiddenAt(String text, int i) {
        return hidden[4 * (text.charAt(i) - 'a') + text.charAt(i + 1) - '1'];
    }

    private void writeClue() {
        String text = drawText();
        for (int tries = 0; tries < 100 && hidden != null && !fitsHidden(text); tries++) {
            text = drawText();
        }
        if (draw(4) > 0) {
            call("wipe", 0, 0);
        }
        for (int i = 0; i < text.length(); i++) {
            call("say", text.charAt(i), 0);
        }
        if (draw(5) == 0) {
            call("fault", 0, 0);
        }
        call("clue", 0, 0);
    }

    private void writeNonsense() {
        String text = drawText();
        int cut = draw(text.length() + 1);
        String signs = "abcdef0123456=!<+~@|A ";
        for (int i = 0; i < cut; i++) {
            call("say", text.charAt(i), 0);
        }
        for (int more = draw(4); more > 0; more--) {
            call("say", draw(6) == 0 ? edge() : signs.charAt(draw(signs.length())), 0);
        }
        call("fault", 0, 0);
        call(draw(2) == 0 ? "clue" : "count", 2, 0);
        if (draw(2) == 0) {
            call("wipe", 0, 0);
        }
    }

    private void changeClues() {
        switch (draw(8)) {
            case 0:
            case 1: call("drop", near(0, 11), 0); break;
            case 2: call("trim", 0, 0); break;
            case 3: call("restore", near(0, 1), 0); break;
            case 4:
            case 5: call("image", near(0, 1), 0); break;
            default: writeClue(); break;
        }
    }

    private void ask() {
        int total = Math.max(1, model.answers());
        switch (draw(15)) {
            case 0: call("answers", 0, 0); break;
            case 1: call("answer", near(0, total), near(0, 15)); break;
            case 2: call("answer", draw(total), near(0, 15)); break;
            case 3: call("often", near(0, 15), near(1, 4)); break;
            case 4: call("together", near(0, 15), near(0, 15)); break;
            case 5: call("met", near(0, (1 << model.count(0)) - 1), 0); break;
            case 6: call("needless", 0, 0); break;
            case 7: call("core", 0, 0); break;
            case 8: call("step", near(-1, model.step(-1, 0)), near(0, 3)); break;
            case 9: call("step", draw(model.step(-1, 0) + 1), draw(4)); break;
            case 10: call("left", near(0, 15), near(0, 50)); break;
            case 11: call("end", 0, 0); break;
            case 12: call("told", near(0, 11), near(0, 4)); break;
            case 13: call("count", near(0, 3), 0); break;
            default: call("count", near(10, 16), 0); break;
        }
    }

    /** At most 4, 204 and 48 calls, so that with those drawn an object is never used for more than its 512. */
    private void askAllOver() {
        for (String name : new String[] {"answers", "needless", "core", "end"}) {
            call(name, 0, 0);
        }
        for (int k = -1; k <= model.step(-1, 0); k++) {
            for (int what = 0; what < 4; what++) {
                call("step", k, what);
            }
        }
        for (int item = 0; item < 16; item++) {
            call("left", item, 64);
            call("answer", 0, item);
            call("answer", model.answers() - 1, item);
        }
    }

    private void call(String name, int first, int second) {
        calls++;
        String told = "seed " + seed + " call " + calls + ": " + name + "(" + first + ", " + second + ")";
        CHECKS.due(told, ofProgram(name, first, second), ofModel(name, first, second));
    }

    private int ofProgram(String name, int first, int second) {
        switch (name) {
            case "say": return program.say(first);
            case "wipe": return program.wipe();
            case "fault": return program.fault();
            case "clue": return program.clue();
            case "drop": return program.drop(first);
            case "told": return program.told(first, second);
            case "answers": return program.answers();
            case "answer": return program.answer(first, second);
            case "often": return program.often(first, second);
            case "together": return program.together(first, second);
            case "met": return program.met(first);
            case "needless": return program.needless();
            case "core": return program.core();
            case "trim": return program.trim();
            case "step": return program.step(first, second);
            case "left": return program.left(first, second);
            case "end": return program.end();
            case "image": return program.image(first);
            case "restore": return program.restore(first);
            default: return program.count(first);
        }
    }

    private int ofModel(String name, int first, int second) {
        switch (name) {
            case "say": return model.say(first);
            case "wipe": return model.wipe();
            case "fault": return model.fault();
            case "clue": return model.clue();
            case "drop": return model.drop(first);
            case "told": return model.told(first, second);
            case "answers": return model.answers();
            case "answer": return model.answer(first, second);
            case "often": return model.often(first, second);
            case "together": return model.together(first, second);
            case "met": return model.met(first);
            case "needless": return model.needless();
            case "core": return model.core();
            case "trim": return model.trim();
            case "step": return model.step(first, second);
            case "left": return model.left(first, second);
            case "end": return model.end();
            case "image": return model.image(first);
            case "restore": return model.restore(first);
            default: return model.count(first);
        }
    }
}
