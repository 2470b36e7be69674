import java.util.ArrayList;
import java.util.BitSet;
import java.util.HashSet;
import java.util.List;
import java.util.Set;

/**
 * The document once more, as slowly and as literally as can be: every GRID is looked at, every text is
 * written out. It shares no thought with the program, so that both are not wrong alike.
 */
final class Model {
    static final int UNKNOWN = -1, OUTSIDE = -2, STATE = -3, FULL = -4, NO = -5, NONE = -6, FAULT = -7;

    private static final List<byte[]> GRIDS = new ArrayList<>();
    private static final Set<String> TEXTS = new HashSet<>();
    private static final Set<String> BEGINNINGS = new HashSet<>();

    static {
        writeGrids(new byte[16], 0);
        writeTexts();
    }

    private static void writeGrids(byte[] grid, int item) {
        if (item == 16) {
            GRIDS.add(grid.clone());
            return;
        }
        for (byte place = 1; place <= 4; place++) {
            boolean free = true;
            for (int other = item - item % 4; other < item; other++) {
                free &= grid[other] != place;
            }
            if (free) {
                grid[item] = place;
                writeGrids(grid, item + 1);
            }
        }
    }

    static String name(int item) {
        return "" + "abcd".charAt(item / 4) + (item % 4 + 1);
    }

    private static void writeTexts() {
        for (int x = 0; x < 16; x++) {
            for (int p = 1; p <= 4; p++) {
                TEXTS.add(name(x) + "@" + p);
            }
            for (int y = 0; y < 16; y++) {
                for (String sign : new String[] {"=", "!", "<", "+", "~"}) {
                    TEXTS.add(name(x) + sign + name(y));
                }
                for (int z = 0; z < 16; z++) {
                    TEXTS.add(name(x) + "=" + name(y) + "|" + name(z));
                }
            }
        }
        for (String text : TEXTS) {
            for (int n = 0; n <= text.length(); n++) {
                BEGINNINGS.add(text.substring(0, n));
            }
        }
    }

    /** A CLUE, with the set of GRIDS that meet it. */
    private static final class Told {
        final int kind;
        final int[] items;
        final int p;
        final BitSet grids = new BitSet();

        Told(String text) {
            int sign = "=!<+~@".indexOf(text.charAt(2));
            kind = text.length() == 8 ? 6 : sign;
            items = new int[kind == 5 ? 1 : kind == 6 ? 3 : 2];
            for (int i = 0; i < items.length; i++) {
                items[i] = "abcd".indexOf(text.charAt(3 * i)) * 4 + text.charAt(3 * i + 1) - '1';
            }
            p = kind == 5 ? text.charAt(3) - '0' : NONE;
        }

        boolean repeats() {
            for (int i = 0; i < items.length; i++) {
                for (int j = 0; j < i; j++) {
                    if (items[i] == items[j]) {
                        return true;
                    }
                }
            }
            return false;
        }

        void lookAtGrids() {
            int[] places = new int[items.length];
            for (int g = 0; g < GRIDS.size(); g++) {
                for (int i = 0; i < items.length; i++) {
                    places[i] = GRIDS.get(g)[items[i]];
                }
                grids.set(g, met(places));
            }
        }

        boolean met(int[] at) {
            switch (kind) {
                case 0: return at[0] == at[1];
                case 1: return at[0] != at[1];
                case 2: return at[0] < at[1];
                case 3: return at[1] == at[0] + 1;
                case 4: return at[1] == at[0] + 1 || at[0] == at[1] + 1;
                case 5: return at[0] == p;
                default: return at[0] == at[1] || at[0] == at[2];
            }
        }
    }

    private String text = "";
    private List<Told> clues = new ArrayList<>();
    private final List<List<Told>> images = new ArrayList<>();
    private int latest = NONE;
    private BitSet known = null;
    private List<int[]> steps = null;

    Model() {
        images.add(null);
        images.add(null);
    }

    private void changed() {
        known = null;
        steps = null;
    }

    int say(int sign) {
        if (sign < 33 || sign > 126) {
            return OUTSIDE;
        }
        if (text.length() == 10) {
            return FULL;
        }
        text += (char) sign;
        return text.length();
    }

    int wipe() {
        int had = text.length();
        text = "";
        return had;
    }

    int fault() {
        for (int n = 0; n < text.length(); n++) {
            if (!BEGINNINGS.contains(text.substring(0, n + 1))) {
                return n;
            }
        }
        return TEXTS.contains(text) ? NONE : text.length();
    }

    int clue() {
        if (fault() != NONE) {
            latest = fault();
            return FAULT;
        }
        Told told = new Told(text);
        if (told.repeats()) {
            return NO;
        }
        if (clues.size() == 12) {
            return FULL;
        }
        told.lookAtGrids();
        clues.add(told);
        text = "";
        changed();
        return clues.size() - 1;
    }

    int drop(int clue) {
        if (clue < 0 || clue >= clues.size()) {
            return UNKNOWN;
        }
        clues.remove(clue);
        changed();
        return clues.size();
    }

    int told(int clue, int what) {
        if (clue < 0 || clue >= clues.size()) {
            return UNKNOWN;
        }
        if (what < 0 || what > 4) {
            return OUTSIDE;
        }
        Told told = clues.get(clue);
        if (what == 0) {
            return told.kind;
        }
        if (what == 4) {
            return told.p;
        }
        return what <= told.items.length ? told.items[what - 1] : NONE;
    }

    private BitSet meeting(int set) {
        BitSet grids = new BitSet();
        grids.set(0, GRIDS.size());
        for (int k = 0; k < clues.size(); k++) {
            if ((set & 1 << k) != 0) {
                grids.and(clues.get(k).grids);
            }
        }
        return grids;
    }

    private int all() {
        return (1 << clues.size()) - 1;
    }

    private BitSet answersSet() {
        if (known == null) {
            known = meeting(all());
        }
        return known;
    }

    int answers() {
        return answersSet().cardinality();
    }

    int answer(int i, int item) {
        if (i < 0 || item < 0 || item > 15) {
            return OUTSIDE;
        }
        int rest = i;
        for (int g = answersSet().nextSetBit(0); g >= 0; g = answersSet().nextSetBit(g + 1)) {
            if (rest == 0) {
                return GRIDS.get(g)[item];
            }
            rest--;
        }
        return NONE;
    }

    int often(int item, int place) {
        if (item < 0 || item > 15 || place < 1 || place > 4) {
            return OUTSIDE;
        }
        int sum = 0;
        for (int g = answersSet().nextSetBit(0); g >= 0; g = answersSet().nextSetBit(g + 1)) {
            sum += GRIDS.get(g)[item] == place ? 1 : 0;
        }
        return sum;
    }

    int together(int one, int other) {
        if (one < 0 || one > 15 || other < 0 || other > 15) {
            return OUTSIDE;
        }
        int sum = 0;
        for (int g = answersSet().nextSetBit(0); g >= 0; g = answersSet().nextSetBit(g + 1)) {
            sum += GRIDS.get(g)[one] == GRIDS.get(g)[other] ? 1 : 0;
        }
        return sum;
    }

    int met(int set) {
        return set < 0 || set > all() ? OUTSIDE : meeting(set).cardinality();
    }

    int needless() {
        int set = 0;
        for (int k = 0; k < clues.size(); k++) {
            if (meeting(all() - (1 << k)).cardinality() == answers()) {
                set |= 1 << k;
            }
        }
        return set;
    }

    int core() {
        int set = all();
        for (int k = clues.size() - 1; k >= 0; k--) {
            if (meeting(set - (1 << k)).cardinality() == answers()) {
                set -= 1 << k;
            }
        }
        return set;
    }

    int trim() {
        int core = core();
        List<Told> stay = new ArrayList<>();
        for (int k = 0; k < clues.size(); k++) {
            if ((core & 1 << k) != 0) {
                stay.add(clues.get(k));
            }
        }
        clues = stay;
        changed();
        return clues.size();
    }

    /** The sets of places behind the first k steps. */
    private List<Set<Integer>> leftBehind(int k) {
        List<Set<Integer>> left = new ArrayList<>();
        for (int item = 0; item < 16; item++) {
            left.add(new HashSet<>(List.of(1, 2, 3, 4)));
        }
        for (int j = 0; j < k && j < steps.size(); j++) {
            left.get(steps.get(j)[2]).remove(steps.get(j)[3]);
        }
        return left;
    }

    private void solve() {
        if (steps != null) {
            return;
        }
        steps = new ArrayList<>();
        while (true) {
            List<Set<Integer>> left = leftBehind(steps.size());
            for (Set<Integer> set : left) {
                if (set.isEmpty()) {
                    return;
                }
            }
            int[] step = byClue(left);
            step = step == null ? byItem(left) : step;
            step = step == null ? byPlace(left) : step;
            if (step == null) {
                return;
            }
            steps.add(step);
        }
    }

    private int[] byClue(List<Set<Integer>> left) {
        for (int k = 0; k < clues.size(); k++) {
            Told told = clues.get(k);
            for (int i = 0; i < told.items.length; i++) {
                for (int p = 1; p <= 4; p++) {
                    if (left.get(told.items[i]).contains(p)
                            && !canBeMet(told, new int[told.items.length], 0, i, p, left)) {
                        return new int[] {0, k, told.items[i], p};
                    }
                }
            }
        }
        return null;
    }

    private boolean canBeMet(Told told, int[] at, int next, int fixed, int p, List<Set<Integer>> left) {
        if (next == at.length) {
            return told.met(at);
        }
        for (int q = 1; q <= 4; q++) {
            if (next == fixed ? q == p : left.get(told.items[next]).contains(q)) {
                at[next] = q;
                if (canBeMet(told, at, next + 1, fixed, p, left)) {
                    return true;
                }
            }
        }
        return false;
    }

    private int[] byItem(List<Set<Integer>> left) {
        for (int item = 0; item < 16; item++) {
            for (int other = 0; other < 16; other++) {
                if (other / 4 == item / 4 && other != item && left.get(item).size() == 1) {
                    int place = left.get(item).iterator().next();
                    if (left.get(other).contains(place)) {
                        return new int[] {1, NONE, other, place};
                    }
                }
            }
        }
        return null;
    }

    private int[] byPlace(List<Set<Integer>> left) {
        for (int category = 0; category < 4; category++) {
            for (int place = 1; place <= 4; place++) {
                List<Integer> have = new ArrayList<>();
                for (int item = 4 * category; item < 4 * category + 4; item++) {
                    if (left.get(item).contains(place)) {
                        have.add(item);
                    }
                }
                for (int other = 1; other <= 4; other++) {
                    if (have.size() == 1 && other != place && left.get(have.get(0)).contains(other)) {
                        return new int[] {2, NONE, have.get(0), other};
                    }
                }
            }
        }
        return null;
    }

    int step(int k, int what) {
        if (k < -1 || what < 0 || what > 3) {
            return OUTSIDE;
        }
        solve();
        if (k == -1) {
            return steps.size();
        }
        return k < steps.size() ? steps.get(k)[what] : NONE;
    }

    int left(int item, int k) {
        if (item < 0 || item > 15 || k < 0) {
            return OUTSIDE;
        }
        solve();
        int set = 0;
        for (int place : leftBehind(k).get(item)) {
            set |= 1 << place;
        }
        return set;
    }

    int end() {
        solve();
        boolean more = false;
        boolean none = false;
        for (Set<Integer> set : leftBehind(steps.size())) {
            more |= set.size() > 1;
            none |= set.isEmpty();
        }
        return none ? 2 : more ? 1 : 0;
    }

    int image(int k) {
        if (k != 0 && k != 1) {
            return OUTSIDE;
        }
        images.set(k, new ArrayList<>(clues));
        return 1;
    }

    int restore(int k) {
        if (k != 0 && k != 1) {
            return OUTSIDE;
        }
        if (images.get(k) == null) {
            return STATE;
        }
        clues = new ArrayList<>(images.get(k));
        changed();
        return 1;
    }

    int count(int what) {
        if (what >= 10 && what <= 16) {
            int sum = 0;
            for (Told told : clues) {
                sum += told.kind == what - 10 ? 1 : 0;
            }
            return sum;
        }
        switch (what) {
            case 0: return clues.size();
            case 1: return text.length();
            case 2: return latest;
            case 3: return (images.get(0) == null ? 0 : 1) + (images.get(1) == null ? 0 : 2);
            default: return OUTSIDE;
        }
    }
}
