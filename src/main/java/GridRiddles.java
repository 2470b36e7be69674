import java.util.Arrays;

/** Riddles of who and what is where; README.md says how to use it. */
public final class GridRiddles {
    public static final int UNKNOWN = -1, OUTSIDE = -2, STATE = -3, FULL = -4, NO = -5, NONE = -6, FAULT = -7;

    private static final int ITEMS = 16, CATEGORIES = 4, PLACES = 4, KINDS = 7;
    private static final int MOST_CLUES = 12, MOST_SIGNS = 10, IMAGES = 2;

    private static final int SAME = 0, UNLIKE = 1, LESS = 2, NEXT = 3, BESIDE = 4, FIXED = 5, EITHER = 6;

    private final Text text = new Text();
    private final Clues clues = new Clues();
    private final Clues[] images = new Clues[IMAGES];
    private final Answers found = new Answers();
    private final Strikes strikes = new Strikes();
    private int keptImages = 0;
    private int latestFault = NONE;

    public GridRiddles() {
        for (int k = 0; k < IMAGES; k++) {
            images[k] = new Clues();
        }
    }

    // ---- 1 clues

    public int say(int sign) {
        if (sign < 33 || sign > 126) {
            return OUTSIDE;
        }
        if (text.size >= MOST_SIGNS) {
            return FULL;
        }
        text.add(sign);
        return text.size;
    }

    public int wipe() {
        int had = text.size;
        text.size = 0;
        return had;
    }

    public int fault() {
        return text.faultPlace();
    }

    public int clue() {
        int place = text.faultPlace();
        if (place != NONE) {
            latestFault = place;
            return FAULT;
        }
        if (text.repeatsAnItem()) {
            return NO;
        }
        if (clues.size >= MOST_CLUES) {
            return FULL;
        }
        clues.add(text.toClue());
        text.size = 0;
        forgetWhatWasFound();
        return clues.size - 1;
    }

    public int drop(int clue) {
        if (!isClue(clue)) {
            return UNKNOWN;
        }
        clues.remove(clue);
        forgetWhatWasFound();
        return clues.size;
    }

    public int told(int clue, int what) {
        if (!isClue(clue)) {
            return UNKNOWN;
        }
        Clue asked = clues.row[clue];
        switch (what) {
            case 0: return asked.kind;
            case 1: return asked.x;
            case 2: return asked.y;
            case 3: return asked.z;
            case 4: return asked.place;
            default: return OUTSIDE;
        }
    }

    // ---- 2 answers

    public int answers() {
        return found.total(clues);
    }

    public int answer(int i, int item) {
        if (i < 0 || !isItem(item)) {
            return OUTSIDE;
        }
        return found.placeIn(clues, i, item);
    }

    public int often(int item, int place) {
        if (!isItem(item) || !isPlace(place)) {
            return OUTSIDE;
        }
        return found.totalWith(clues, Clue.of(FIXED, item, NONE, NONE, place));
    }

    public int together(int one, int other) {
        if (!isItem(one) || !isItem(other)) {
            return OUTSIDE;
        }
        if (one == other) {
            return found.total(clues);
        }
        return found.totalWith(clues, Clue.of(SAME, one, other, NONE, NONE));
    }

    public int met(int set) {
        if ((set & ~clues.all()) != 0) {
            return OUTSIDE;
        }
        return found.meeting(clues, set);
    }

    public int needless() {
        return found.needlessSet(clues);
    }

    public int core() {
        return found.coreSet(clues);
    }

    public int trim() {
        int stay = found.coreSet(clues);
        for (int k = clues.size - 1; k >= 0; k--) {
            if (!isIn(stay, k)) {
                clues.remove(k);
            }
        }
        forgetWhatWasFound();
        return clues.size;
    }

    // ---- 3 strikes

    public int step(int k, int what) {
        if (k < -1 || what < 0 || what > 3) {
            return OUTSIDE;
        }
        strikes.solve(clues);
        if (k == -1) {
            return strikes.size;
        }
        return k < strikes.size ? strikes.steps[4 * k + what] : NONE;
    }

    public int left(int item, int k) {
        if (!isItem(item) || k < 0) {
            return OUTSIDE;
        }
        strikes.solve(clues);
        return strikes.leftBehind(item, k);
    }

    public int end() {
        strikes.solve(clues);
        return strikes.howItEnds();
    }

    // ---- 4 images

    public int image(int k) {
        if (k < 0 || k >= IMAGES) {
            return OUTSIDE;
        }
        images[k].copy(clues);
        keptImages |= 1 << k;
        return 1;
    }

    public int restore(int k) {
        if (k < 0 || k >= IMAGES) {
            return OUTSIDE;
        }
        if (!isIn(keptImages, k)) {
            return STATE;
        }
        clues.copy(images[k]);
        forgetWhatWasFound();
        return 1;
    }

    public int count(int what) {
        if (what >= 10 && what < 10 + KINDS) {
            return clues.ofKind(what - 10);
        }
        switch (what) {
            case 0: return clues.size;
            case 1: return text.size;
            case 2: return latestFault;
            case 3: return keptImages;
            default: return OUTSIDE;
        }
    }

    private void forgetWhatWasFound() {
        found.forget();
        strikes.forget();
    }

    private boolean isClue(int clue) {
        return clue >= 0 && clue < clues.size;
    }

    private static boolean isItem(int item) {
        return item >= 0 && item < ITEMS;
    }

    private static boolean isPlace(int place) {
        return place >= 1 && place <= PLACES;
    }

    private static boolean isIn(int set, int k) {
        return (set >> k & 1) != 0;
    }

    /** THE TEXT: the signs that were said, and how they are read. */
    private static final class Text {
        final int[] signs = new int[MOST_SIGNS];
        int size = 0;

        void add(int sign) {
            if (size < MOST_SIGNS) {
                signs[size] = sign;
                size++;
            }
        }

        int faultPlace() {
            for (int i = 0; i < size; i++) {
                if (!canStand(i)) {
                    return i;
                }
            }
            return isWhole() ? NONE : size;
        }

        /** Asked by rising places: the signs before place i are taken as good. */
        private boolean canStand(int i) {
            int sign = signs[i];
            switch (i) {
                case 0:
                case 6: return isLetter(sign);
                case 1:
                case 7: return isFigure(sign);
                case 2: return kindOf(sign) != NONE;
                case 3: return signs[2] == '@' ? isFigure(sign) : isLetter(sign);
                case 4: return signs[2] != '@' && isFigure(sign);
                case 5: return signs[2] == '=' && sign == '|';
                default: return false;
            }
        }

        /** Asked when every sign can stand where it is. */
        private boolean isWhole() {
            if (size < 4) {
                return false;
            }
            return signs[2] == '@' || size == 5 || size == 8;
        }

        boolean repeatsAnItem() {
            if (signs[2] == '@') {
                return false;
            }
            int x = itemAt(0);
            int y = itemAt(3);
            if (size < 8) {
                return x == y;
            }
            int z = itemAt(6);
            return x == y || x == z || y == z;
        }

        /** Asked when THE TEXT has no FAULT. */
        Clue toClue() {
            int x = itemAt(0);
            if (signs[2] == '@') {
                return Clue.of(FIXED, x, NONE, NONE, signs[3] - '0');
            }
            int y = itemAt(3);
            if (size == 8) {
                return Clue.of(EITHER, x, y, itemAt(6), NONE);
            }
            return Clue.of(kindOf(signs[2]), x, y, NONE, NONE);
        }

        private int itemAt(int i) {
            return 4 * (signs[i] - 'a') + signs[i + 1] - '1';
        }

        private static boolean isLetter(int sign) {
            return sign >= 'a' && sign <= 'd';
        }

        private static boolean isFigure(int sign) {
            return sign >= '1' && sign <= '4';
        }

        /** KIND 6 begins as KIND 0 does, so it is not told by this sign. */
        private static int kindOf(int sign) {
            switch (sign) {
                case '=': return SAME;
                case '!': return UNLIKE;
                case '<': return LESS;
                case '+': return NEXT;
                case '~': return BESIDE;
                case '@': return FIXED;
                default: return NONE;
            }
        }
    }

    /**
     * A CLUE, which never changes, so that images may share it.
     *
     * An order (0 to 23) is one way to give the four items of a category their places; orders are
     * numbered as GRIDS are sorted. Of the last category that the clue speaks of, its top, the clue
     * allows a set of orders, as soon as the columns (places less one) of its other items are known:
     * so sets of orders can be cut with one another instead of looking at single GRIDS.
     */
    private static final class Clue {
        /** The columns of an order's four items. */
        static final int[] COLUMNS = {
            0, 1, 2, 3, 0, 1, 3, 2, 0, 2, 1, 3, 0, 2, 3, 1, 0, 3, 1, 2, 0, 3, 2, 1,
            1, 0, 2, 3, 1, 0, 3, 2, 1, 2, 0, 3, 1, 2, 3, 0, 1, 3, 0, 2, 1, 3, 2, 0,
            2, 0, 1, 3, 2, 0, 3, 1, 2, 1, 0, 3, 2, 1, 3, 0, 2, 3, 0, 1, 2, 3, 1, 0,
            3, 0, 1, 2, 3, 0, 2, 1, 3, 1, 0, 2, 3, 1, 2, 0, 3, 2, 0, 1, 3, 2, 1, 0
        };
        static final int ORDERS = 24, ALL_ORDERS = (1 << ORDERS) - 1;

        /** The set of orders that have an item of a category (a row) in a column. */
        private static final int[] ORDERS_WITH = {
            0x00003F, 0x000FC0, 0x03F000, 0xFC0000,
            0x0C30C0, 0x30C003, 0xC0030C, 0x030C30,
            0x514500, 0x861014, 0x280861, 0x00A28A,
            0xA28A00, 0x492028, 0x140492, 0x005145
        };

        final int kind, x, y, z, place;
        final int top;
        /** The items that are not of the top category, by rising numbers; NONE, where there are fewer. */
        int low = NONE, high = NONE;
        /** The orders allowed to the top category: at 4 times the column of low, and that of high. */
        final int[] allowed = new int[16];

        private Clue(int kind, int x, int y, int z, int place) {
            this.kind = kind;
            this.x = x;
            this.y = y;
            this.z = z;
            this.place = place;
            this.top = Math.max(x, Math.max(y, z)) / 4;
        }

        static Clue of(int kind, int x, int y, int z, int place) {
            Clue made = new Clue(kind, x, y, z, place);
            made.findLowItems();
            made.fillAllowed();
            return made;
        }

        /** What tells the GRIDS that do not meet this clue; for nothing but finding GRIDS. */
        Clue opposite() {
            Clue made = new Clue(kind, x, y, z, place);
            made.low = low;
            made.high = high;
            for (int entry = 0; entry < 16; entry++) {
                made.allowed[entry] = ALL_ORDERS & ~allowed[entry];
            }
            return made;
        }

        int items() {
            return kind == FIXED ? 1 : kind == EITHER ? 3 : 2;
        }

        int itemAt(int i) {
            return i == 0 ? x : i == 1 ? y : z;
        }

        private void findLowItems() {
            for (int i = 0; i < items(); i++) {
                int item = itemAt(i);
                if (item / 4 < top) {
                    if (low == NONE) {
                        low = item;
                    } else {
                        high = Math.max(low, item);
                        low = Math.min(low, item);
                    }
                }
            }
        }

        /** A number holds the columns of all items of the clue, two bits for each. */
        private void fillAllowed() {
            int end = 1 << 2 * items();
            for (int columns = 0; columns < end; columns++) {
                if (isMetBy(columns & 3, columns >> 2 & 3, columns >> 4 & 3)) {
                    allowColumns(columns);
                }
            }
        }

        private boolean isMetBy(int columnX, int columnY, int columnZ) {
            switch (kind) {
                case SAME: return columnX == columnY;
                case UNLIKE: return columnX != columnY;
                case LESS: return columnX < columnY;
                case NEXT: return columnX + 1 == columnY;
                case BESIDE: return Math.abs(columnX - columnY) == 1;
                case FIXED: return columnX + 1 == place;
                default: return columnX == columnY || columnX == columnZ;
            }
        }

        private void allowColumns(int columns) {
            int orders = ALL_ORDERS;
            int entry = 0;
            for (int i = 0; i < items(); i++) {
                int item = itemAt(i);
                int column = columns >> 2 * i & 3;
                if (item / 4 == top) {
                    orders &= ORDERS_WITH[4 * (item & 3) + column];
                } else {
                    entry += item == low ? 4 * column : column;
                }
            }
            allowed[entry] |= orders;
        }
    }

    /** Up to 12 CLUES by their numbers. */
    private static final class Clues {
        final Clue[] row = new Clue[MOST_CLUES];
        int size = 0;

        void add(Clue clue) {
            if (size < MOST_CLUES) {
                row[size] = clue;
                size++;
            }
        }

        void remove(int clue) {
            for (int k = clue; k < size - 1; k++) {
                row[k] = row[k + 1];
            }
            size--;
        }

        void copy(Clues other) {
            size = other.size;
            for (int k = 0; k < size; k++) {
                row[k] = other.row[k];
            }
        }

        int all() {
            return (1 << size) - 1;
        }

        int ofKind(int kind) {
            int sum = 0;
            for (int k = 0; k < size; k++) {
                if (row[k].kind == kind) {
                    sum++;
                }
            }
            return sum;
        }
    }

    /**
     * Counts and finds the GRIDS that meet chosen clues. Categories a, b and c are gone through order by
     * order; of d only the set of orders that is left is counted.
     */
    private static final class Grids {
        private static final int ORDERS = Clue.ORDERS, ALL_ORDERS = Clue.ALL_ORDERS;
        private static final int ALL_GRIDS = ORDERS * ORDERS * ORDERS * ORDERS;

        /** Where the pairs of a lower category (a row) and an upper one begin in the field pairs. */
        private static final int[] PAIR = {
            0, 0, 24, 48,
            0, 0, 72, 96,
            0, 0, 0, 120
        };
        private static final int A_B = 0, A_C = 24, A_D = 48, B_C = 72, B_D = 96, C_D = 120;

        /** By category: the orders that are left by clues about it alone. */
        private final int[] alone = new int[CATEGORIES];
        /** By pair and order of its lower category: the orders of the upper one left by clues about both. */
        private final int[] pairs = new int[6 * ORDERS];
        /** Clues about three categories of which the middle one is b, and those of which it is c. */
        private final Clues middleB = new Clues();
        private final Clues middleC = new Clues();
        /** Whether a chosen clue ties c and d: if none does, their orders need not be paired one by one. */
        private boolean tiesLast;

        /** By category: the order that is looked at. */
        private final int[] order = new int[CATEGORIES];
        private int ordersOfC;
        private int ordersOfD;
        /** How many GRIDS are still to be passed over. */
        private int rest;

        void choose(Clues clues, int set) {
            Arrays.fill(alone, ALL_ORDERS);
            Arrays.fill(pairs, ALL_ORDERS);
            middleB.size = 0;
            middleC.size = 0;
            tiesLast = false;
            for (int k = 0; k < clues.size; k++) {
                if (isIn(set, k)) {
                    take(clues.row[k]);
                }
            }
        }

        void take(Clue clue) {
            if (clue.low == NONE) {
                alone[clue.top] &= clue.allowed[0];
                return;
            }
            int lower = clue.low / 4;
            int middle = clue.high == NONE ? lower : clue.high / 4;
            tiesLast = tiesLast || middle == 2;
            if (middle == lower) {
                takePair(clue, lower);
            } else if (middle == 1) {
                middleB.add(clue);
            } else {
                middleC.add(clue);
            }
        }

        private void takePair(Clue clue, int lower) {
            int start = PAIR[4 * lower + clue.top];
            for (int k = 0; k < ORDERS; k++) {
                order[lower] = k;
                pairs[start + k] &= allowedNow(clue);
            }
        }

        /** The orders that a clue allows to its top category, the categories below being as they are now. */
        private int allowedNow(Clue clue) {
            int low = clue.low;
            int high = clue.high;
            int first = Clue.COLUMNS[4 * order[low / 4] + (low & 3)];
            int second = high == NONE ? 0 : Clue.COLUMNS[4 * order[high / 4] + (high & 3)];
            return clue.allowed[4 * first + second];
        }

        int placeOf(int item) {
            return Clue.COLUMNS[4 * order[item / 4] + (item & 3)] + 1;
        }

        int total() {
            passOver(ALL_GRIDS);
            return ALL_GRIDS - rest;
        }

        /** Passes over that many GRIDS and looks at the next one: whether there is one. */
        boolean passOver(int many) {
            rest = many;
            for (int a = 0; a < ORDERS; a++) {
                if (isIn(alone[0], a) && passOverWithA(a)) {
                    return true;
                }
            }
            return false;
        }

        private boolean passOverWithA(int a) {
            order[0] = a;
            int ordersOfB = alone[1] & pairs[A_B + a];
            for (int b = 0; b < ORDERS; b++) {
                if (isIn(ordersOfB, b)) {
                    int more = totalWithB(b);
                    if (rest < more) {
                        lookAtC();
                        return true;
                    }
                    rest -= more;
                }
            }
            return false;
        }

        private int totalWithB(int b) {
            chooseB(b);
            if (ordersOfC == 0 || ordersOfD == 0) {
                return 0;
            }
            if (!tiesLast) {
                return Integer.bitCount(ordersOfC) * Integer.bitCount(ordersOfD);
            }
            int sum = 0;
            for (int c = 0; c < ORDERS; c++) {
                if (isIn(ordersOfC, c)) {
                    sum += Integer.bitCount(ordersOfDWithC(c));
                }
            }
            return sum;
        }

        private void chooseB(int b) {
            int a = order[0];
            order[1] = b;
            ordersOfC = alone[2] & pairs[A_C + a] & pairs[B_C + b];
            ordersOfD = alone[3] & pairs[A_D + a] & pairs[B_D + b];
            for (int k = 0; k < middleB.size; k++) {
                Clue clue = middleB.row[k];
                if (clue.top == 2) {
                    ordersOfC &= allowedNow(clue);
                } else {
                    ordersOfD &= allowedNow(clue);
                }
            }
        }

        private int ordersOfDWithC(int c) {
            order[2] = c;
            int orders = ordersOfD & pairs[C_D + c];
            for (int k = 0; k < middleC.size && orders != 0; k++) {
                orders &= allowedNow(middleC.row[k]);
            }
            return orders;
        }

        private void lookAtC() {
            for (int c = 0; c < ORDERS; c++) {
                if (isIn(ordersOfC, c)) {
                    int orders = ordersOfDWithC(c);
                    int more = Integer.bitCount(orders);
                    if (rest < more) {
                        lookAtD(orders);
                        return;
                    }
                    rest -= more;
                }
            }
        }

        private void lookAtD(int orders) {
            for (int d = 0; d < ORDERS; d++) {
                if (isIn(orders, d)) {
                    if (rest == 0) {
                        order[3] = d;
                        return;
                    }
                    rest--;
                }
            }
        }
    }

    /** What the ANSWERS tell, kept till the clues change, as it is dear to find. */
    private static final class Answers {
        private final Grids grids = new Grids();
        private int knownTotal = NONE;
        private int knownNeedless = NONE;
        private int knownCore = NONE;
        /** The number of the ANSWER whose places are kept. */
        private int keptAnswer = NONE;
        private final int[] keptPlaces = new int[ITEMS];

        void forget() {
            knownTotal = NONE;
            knownNeedless = NONE;
            knownCore = NONE;
            keptAnswer = NONE;
        }

        int meeting(Clues clues, int set) {
            grids.choose(clues, set);
            return grids.total();
        }

        int total(Clues clues) {
            if (knownTotal == NONE) {
                grids.choose(clues, clues.all());
                knownTotal = grids.total();
            }
            return knownTotal;
        }

        int totalWith(Clues clues, Clue further) {
            grids.choose(clues, clues.all());
            grids.take(further);
            return grids.total();
        }

        int placeIn(Clues clues, int i, int item) {
            if (i != keptAnswer) {
                grids.choose(clues, clues.all());
                if (!grids.passOver(i)) {
                    return NONE;
                }
                for (int k = 0; k < ITEMS; k++) {
                    keptPlaces[k] = grids.placeOf(k);
                }
                keptAnswer = i;
            }
            return keptPlaces[item];
        }

        int needlessSet(Clues clues) {
            if (knownNeedless == NONE) {
                int set = 0;
                for (int k = 0; k < clues.size; k++) {
                    if (isNeedlessAmong(clues, clues.all(), k)) {
                        set |= 1 << k;
                    }
                }
                knownNeedless = set;
            }
            return knownNeedless;
        }

        int coreSet(Clues clues) {
            if (knownCore == NONE) {
                int set = clues.all();
                for (int k = clues.size - 1; k >= 0; k--) {
                    if (isNeedlessAmong(clues, set, k)) {
                        set &= ~(1 << k);
                    }
                }
                knownCore = set;
            }
            return knownCore;
        }

        /**
         * Without a clue there are more ANSWERS just if a GRID meets the others, but not it; to find one such
         * GRID takes far less than to count them all.
         */
        private boolean isNeedlessAmong(Clues clues, int set, int clue) {
            grids.choose(clues, set & ~(1 << clue));
            grids.take(clues.row[clue].opposite());
            return !grids.passOver(0);
        }
    }

    /** The STEPS, kept till the clues change. Sets of places have bits 1 to 4. */
    private static final class Strikes {
        private static final int ALL_PLACES = 30;
        /** An item may lose three places, and one of them all four: 49 steps are never passed. */
        private static final int MOST_STEPS = 64;

        private final int[] places = new int[ITEMS];
        /** Four numbers a step: RULE, CLUE, ITEM, PLACE. */
        final int[] steps = new int[4 * MOST_STEPS];
        int size = 0;
        private boolean solved = false;

        void forget() {
            solved = false;
        }

        void solve(Clues clues) {
            if (solved) {
                return;
            }
            Arrays.fill(places, ALL_PLACES);
            size = 0;
            for (int k = 0; k < MOST_STEPS; k++) {
                boolean struck = strikeByClue(clues) || strikeByOnlyPlace() || strikeByOnlyItem();
                if (!struck || places[steps[4 * k + 2]] == 0) {
                    break;
                }
            }
            solved = true;
        }

        private void strike(int rule, int clue, int item, int place) {
            places[item] &= ~(1 << place);
            int start = 4 * size;
            steps[start] = rule;
            steps[start + 1] = clue;
            steps[start + 2] = item;
            steps[start + 3] = place;
            size++;
        }

        private boolean strikeByClue(Clues clues) {
            for (int k = 0; k < clues.size; k++) {
                Clue clue = clues.row[k];
                for (int i = 0; i < clue.items(); i++) {
                    int item = clue.itemAt(i);
                    int struck = places[item] & ~supported(clue, i);
                    if (struck != 0) {
                        strike(0, k, item, firstOf(struck));
                        return true;
                    }
                }
            }
            return false;
        }

        /** The places of the i-th item of a clue for which the others have places that meet it. */
        private int supported(Clue clue, int i) {
            if (clue.kind == FIXED) {
                return 1 << clue.place;
            }
            if (clue.kind == EITHER) {
                return supportedByEither(clue, i);
            }
            int other = places[clue.itemAt(1 - i)];
            int less = other >> 1;
            int more = other << 1;
            switch (clue.kind) {
                case SAME: return other;
                case UNLIKE: return Integer.bitCount(other) == 1 ? ~other : ALL_PLACES;
                case LESS: return i == 0 ? less | less >> 1 | less >> 2 : more | more << 1 | more << 2;
                case NEXT: return i == 0 ? less : more;
                default: return less | more;
            }
        }

        private int supportedByEither(Clue clue, int i) {
            if (i == 0) {
                return places[clue.y] | places[clue.z];
            }
            int ofX = places[clue.x];
            int ofOther = places[i == 1 ? clue.z : clue.y];
            return (ofX & ofOther) != 0 ? ALL_PLACES : ofX;
        }

        private boolean strikeByOnlyPlace() {
            for (int item = 0; item < ITEMS; item++) {
                if (Integer.bitCount(places[item]) == 1) {
                    int first = item / 4 * 4;
                    for (int other = first; other < first + 4; other++) {
                        if (other != item && (places[other] & places[item]) != 0) {
                            strike(1, NONE, other, firstOf(places[item]));
                            return true;
                        }
                    }
                }
            }
            return false;
        }

        private boolean strikeByOnlyItem() {
            for (int category = 0; category < CATEGORIES; category++) {
                for (int place = 1; place <= PLACES; place++) {
                    int item = onlyItemWith(category, place);
                    int struck = item == NONE ? 0 : places[item] & ~(1 << place);
                    if (struck != 0) {
                        strike(2, NONE, item, firstOf(struck));
                        return true;
                    }
                }
            }
            return false;
        }

        private int onlyItemWith(int category, int place) {
            int only = NONE;
            for (int item = 4 * category; item < 4 * category + 4; item++) {
                if (isIn(places[item], place)) {
                    if (only != NONE) {
                        return NONE;
                    }
                    only = item;
                }
            }
            return only;
        }

        private static int firstOf(int set) {
            return Integer.numberOfTrailingZeros(set);
        }

        int leftBehind(int item, int k) {
            int set = ALL_PLACES;
            int end = Math.min(k, size);
            for (int j = 0; j < end; j++) {
                if (steps[4 * j + 2] == item) {
                    set &= ~(1 << steps[4 * j + 3]);
                }
            }
            return set;
        }

        int howItEnds() {
            int end = 0;
            for (int item = 0; item < ITEMS; item++) {
                if (places[item] == 0) {
                    return 2;
                }
                if (Integer.bitCount(places[item]) > 1) {
                    end = 1;
                }
            }
            return end;
        }
    }
}
