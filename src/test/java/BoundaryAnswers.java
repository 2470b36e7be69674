/** Part 2 of "Terms", the order of GRIDS, and promises 8 to 15. */
final class BoundaryAnswers extends BoundaryPart {
    private static final int[] NO_PLACES = {MIN, MIN + 1, -4, -1, 0, 5, 6, 33, 257, MAX - 1, MAX};
    private static final int[] BELOW = {MIN, MIN + 1, -ALL, -7, -6, -2, -1};

    BoundaryAnswers(Boundary boundary) {
        super(boundary);
    }

    @Override
    void run() {
        noTwoOfOneCategory();
        gridsAreInOrder();
        answersAreAllGrids();
        needlessIfAsMany();
        needlessOfThreeItems();
        trimByFallingNumbers();
        trimAsManyAsWithAll();
        howManyAnswers();
        answerPlace();
        answerFromZeroOn();
        answerNone();
        answerOutside();
        answerOutsideAheadOfNone();
        often();
        oftenOutside();
        together();
        togetherOfOne();
        togetherOutside();
        metOfASet();
        metWhateverTheOthers();
        metOutside();
        needlessSet();
        coreSet();
        trimGo();
        trimTellsHowMany();
    }

    private void noTwoOfOneCategory() {
        sentence("Part 1", "A GRID gives each ITEM a PLACE, no two of one CATEGORY the same.");
        for (int item = 0; item < 16; item++) {
            for (int other = 0; other < 16; other++) {
                if (item != other) {
                    boolean one = item / 4 == other / 4;
                    Riddle x = Riddle.with(name(item) + "=" + name(other));
                    due("answers() of " + name(item) + "=" + name(other), x.answers(), one ? 0 : ALL / 4);
                }
            }
        }
        due("answers() of c1=c2|c3", Riddle.with("c1=c2|c3").answers(), 0);
        due("answers() of c1=c2|d3", Riddle.with("c1=c2|d3").answers(), ALL / 4);
    }

    private void gridIs(Riddle x, int i, String places) {
        for (int item = 0; item < 16; item++) {
            due("answer(" + i + ", " + item + ")", x.answer(i, item), places.charAt(item) - '0');
        }
    }

    /** The last number of each block of GRIDS and the first of the next one. */
    private void gridsAreInOrder() {
        sentence("Part 1",
            "GRIDS are in order: by the PLACE of ITEM 0, the lesser first, then by that of ITEM 1, and so on.");
        Riddle x = new Riddle();
        gridIs(x, 0, "1234123412341234");
        gridIs(x, 5, "1234123412341432");
        gridIs(x, 6, "1234123412342134");
        gridIs(x, 23, "1234123412344321");
        gridIs(x, 24, "1234123412431234");
        gridIs(x, 575, "1234123443214321");
        gridIs(x, 576, "1234124312341234");
        gridIs(x, 13823, "1234432143214321");
        gridIs(x, 13824, "1243123412341234");
        gridIs(x, 82943, "1432432143214321");
        gridIs(x, 82944, "2134123412341234");
        gridIs(x, 331775, "4321432143214321");
    }

    private void answersAreAllGrids() {
        sentence("Part 2", "ANSWERS are all GRIDS that meet all CLUES.");
        due("answers() of no clue", new Riddle().answers(), ALL);
        due("answers() of twelve that every GRID meets", idle().answers(), ALL);
        due("answers() of twelve that one GRID meets", solved().answers(), 1);
        gridIs(solved(), 0, "1234123412341234");
        due("answers() of one that no GRID meets", Riddle.with("a1=a2").answers(), 0);
        due("answers() of two that quarrel", Riddle.with("d4@1", "d4@4").answers(), 0);
        due("answers() of a ring", Riddle.with("a1<b1", "b1<c1", "c1<a1").answers(), 0);
        due("answers() of five in a row", Riddle.with("a1<b1", "b1<c1", "c1<d1", "d1<a2").answers(), 0);
        due("answers() of four in a row", Riddle.with("a1<b1", "b1<c1", "c1<d1").answers(), 6 * 6 * 6 * 6);
    }

    private void needlessIfAsMany() {
        sentence("Part 2", "A CLUE is NEEDLESS, if there are as many ANSWERS without it.");
        due("needless() of one less", Riddle.with("a1@1", "a2@2", "a3!a4").needless(), 4);
        due("needless() of a clue that takes one ANSWER of two",
            Riddle.with("a1@1", "a2@2", "a3@3", "b1@1", "b2@2", "b3@3", "c1@1", "c2@2", "c3@3", "d1@1", "d2@2", "d3@3")
                .needless(), 0);
        due("needless() of one clue, no ANSWER", Riddle.with("a1=a2").needless(), 0);
        due("needless() of two, no ANSWER by each", Riddle.with("a1=a2", "b1=b2").needless(), 3);
        due("needless() of two, no ANSWER by both", Riddle.with("a1@1", "a1@2").needless(), 0);
        due("needless() of three, no ANSWER by any two", Riddle.with("a1@1", "a1@2", "a1@3").needless(), 7);
    }

    /** Behind x@p, y@q, z@r a clue x=y|z is met by all that is left, and needless, or by none of it, and needed. */
    private void needlessOfThreeItems() {
        sentence("Part 2", "if there are as many ANSWERS without it");
        for (int places = 0; places < 64; places++) {
            int p = 1 + places % 4;
            int q = 1 + places / 4 % 4;
            int r = 1 + places / 16;
            boolean met = p == q || p == r;
            for (String[] of : THREES) {
                String clue = of[0] + "=" + of[1] + "|" + of[2];
                Riddle x = Riddle.with(of[0] + "@" + p, of[1] + "@" + q, of[2] + "@" + r, clue);
                due("needless() of " + clue + " at " + p + q + r, x.needless() & 8, met ? 8 : 0);
                due("core() of " + clue + " at " + p + q + r, x.core() & 8, met ? 0 : 8);
            }
        }
    }

    private void trimByFallingNumbers() {
        sentence("Part 2", "To TRIM: CLUES are looked at by falling numbers");
        due("core() of two that are the same", Riddle.with("a1@1", "a1@1").core(), 1);
        due("core() of three, any two of which tell the third", Riddle.with("a1=b1", "b1=c1", "a1=c1").core(), 3);
        due("core() of a quarrel by any two", Riddle.with("a1@1", "a1@2", "a1@3").core(), 3);
        due("core() of the one that tells the other, last", Riddle.with("a1!b2", "a1=b1", "b1@1").core(), 6);
        due("core() of the one that tells the other, first", Riddle.with("b1@1", "a1=b1", "a1!b2").core(), 3);
        due("core() of a wider one behind", Riddle.with("a1@1", "a1<b1", "a1!b1").core(), 3);
        Riddle twelve = new Riddle();
        for (int clue = 0; clue < 12; clue++) {
            twelve.add("d4@4");
        }
        due("core() of twelve that are the same", twelve.core(), 1);
    }

    private void trimAsManyAsWithAll() {
        sentence("Part 2",
            "without it and those that went before, there are as many ANSWERS as there are with all CLUES");
        due("core() of two quarrels: the first stays", Riddle.with("a1@1", "a1@2", "b1@1", "b1@2").core(), 3);
        due("core() of two that fail alone", Riddle.with("a1=a2", "b1=b2").core(), 1);
        due("core() of one that fails alone, last", Riddle.with("b1@1", "c1<d1", "a1=a2").core(), 4);
        due("core() of all needed", solved().core(), 4095);
        due("core() of none needed", idle().core(), 0);
        due("core() of one that is needless but for one that went",
            Riddle.with("a1@1", "b1@1", "a1=b1", "c1=b1", "c1@1").core(), 11);
    }

    private void howManyAnswers() {
        sentence("Promise 8", "How many ANSWERS there are.");
        Riddle x = new Riddle();
        int[] due = {ALL, ALL / 4, ALL / 12, ALL / 24, ALL / 96, ALL / 288, 576, 144, 48, 24, 6, 2, 1};
        for (int clues = 0; clues <= 12; clues++) {
            due("answers() of " + clues, x.answers(), due[clues]);
            if (clues < 12) {
                x.add(name(clues / 3 * 4 + clues % 3) + "@" + (1 + clues % 3));
            }
        }
        x.drop(11);
        due("answers() behind drop()", x.answers(), 2);
        x.add("d3=d4");
        due("answers() of none", x.answers(), 0);
    }

    private void answerPlace() {
        sentence("Promise 9", "The PLACE of an ITEM (0 to 15) in the i-th ANSWER");
        Riddle x = solved();
        for (int item = 0; item <= 15; item++) {
            due("answer(0, " + item + ")", x.answer(0, item), 1 + item % 4);
        }
    }

    private void answerFromZeroOn() {
        sentence("Promise 9", "by the order of GRIDS, from 0 on");
        Riddle x = Riddle.with("a1@4", "b2@3", "c3@2", "d4@1");
        due("answers()", x.answers(), 6 * 6 * 6 * 6);
        gridIs(x, 0, "4123132413242341");
        gridIs(x, 1, "4123132413242431");
        gridIs(x, 5, "4123132413244321");
        gridIs(x, 6, "4123132414232341");
        gridIs(x, 36, "4123134213242341");
        gridIs(x, 216, "4132132413242341");
        gridIs(x, 1295, "4321432143214321");
    }

    private void answerNone() {
        sentence("Promise 9", "NONE: there are not so many");
        Riddle[] riddles = {new Riddle(), idle(), solved(), Riddle.with("a1=a2"), Riddle.with("c1@2", "d1~c1")};
        for (Riddle x : riddles) {
            int many = x.answers();
            for (int item : new int[] {0, 7, 15}) {
                if (many > 0) {
                    due("answer(last, " + item + ") is a PLACE", Math.max(0, x.answer(many - 1, item)) > 0 ? 1 : 0, 1);
                }
                for (int i : new int[] {many, many + 1, ALL, ALL + 1, MAX - 1, MAX}) {
                    due("answer(" + i + ", " + item + ") of " + many, x.answer(i, item), NONE);
                }
            }
        }
    }

    private void answerOutside() {
        sentence("Promise 9", "OUTSIDE: i is below 0, the ITEM");
        for (Riddle x : new Riddle[] {new Riddle(), solved(), Riddle.with("a1=a2")}) {
            for (int i : BELOW) {
                due("answer(" + i + ", 0)", x.answer(i, 0), OUTSIDE);
                due("answer(" + i + ", 15)", x.answer(i, 15), OUTSIDE);
                due("answer(" + i + ", 16)", x.answer(i, 16), OUTSIDE);
            }
            for (int item : NO_ITEMS) {
                due("answer(0, " + item + ")", x.answer(0, item), OUTSIDE);
            }
        }
    }

    private void answerOutsideAheadOfNone() {
        sentence("Promise 9", "(ahead of NONE)");
        for (Riddle x : new Riddle[] {new Riddle(), solved(), Riddle.with("a1=a2")}) {
            int many = x.answers();
            for (int item : NO_ITEMS) {
                due("answer(" + many + ", " + item + ")", x.answer(many, item), OUTSIDE);
                due("answer(MAX, " + item + ")", x.answer(MAX, item), OUTSIDE);
            }
        }
    }

    private void often() {
        sentence("Promise 10", "In how many ANSWERS an ITEM is at a PLACE.");
        Riddle none = Riddle.with("a1=a2");
        Riddle one = solved();
        Riddle all = new Riddle();
        for (int item = 0; item <= 15; item++) {
            for (int place = 1; place <= 4; place++) {
                String call = "often(" + item + ", " + place + ")";
                due(call + " of no ANSWER", none.often(item, place), 0);
                due(call + " of one ANSWER", one.often(item, place), place == 1 + item % 4 ? 1 : 0);
                due(call + " of all GRIDS", all.often(item, place), ALL / 4);
            }
        }
    }

    private void oftenOutside() {
        sentence("Promise 10", "OUTSIDE: both.");
        for (Riddle x : new Riddle[] {new Riddle(), solved(), Riddle.with("a1=a2")}) {
            for (int item : NO_ITEMS) {
                due("often(" + item + ", 1)", x.often(item, 1), OUTSIDE);
                due("often(" + item + ", 4)", x.often(item, 4), OUTSIDE);
                due("often(" + item + ", 5)", x.often(item, 5), OUTSIDE);
            }
            for (int place : NO_PLACES) {
                due("often(0, " + place + ")", x.often(0, place), OUTSIDE);
                due("often(15, " + place + ")", x.often(15, place), OUTSIDE);
                due("often(16, " + place + ")", x.often(16, place), OUTSIDE);
            }
        }
    }

    private void together() {
        sentence("Promise 11", "In how many ANSWERS two ITEMS (or one) are at one PLACE.");
        Riddle none = Riddle.with("a1=a2");
        Riddle all = new Riddle();
        for (int one = 0; one <= 15; one += 3) {
            for (int other = 0; other <= 15; other++) {
                String call = "together(" + one + ", " + other + ")";
                int want = one == other ? ALL : one / 4 == other / 4 ? 0 : ALL / 4;
                due(call + " of all GRIDS", all.together(one, other), want);
                due(call + " of no ANSWER", none.together(one, other), 0);
                due(call + " of one ANSWER", solvedTogether(one, other), one % 4 == other % 4 ? 1 : 0);
            }
        }
    }

    private static int solvedTogether(int one, int other) {
        return solved().together(one, other);
    }

    private void togetherOfOne() {
        sentence("Promise 11", "(or one)");
        Riddle all = new Riddle();
        Riddle one = solved();
        Riddle none = Riddle.with("d1=d2");
        for (int item = 0; item <= 15; item++) {
            due("together(" + item + ", " + item + ") of all", all.together(item, item), ALL);
            due("together(" + item + ", " + item + ") of one", one.together(item, item), 1);
            due("together(" + item + ", " + item + ") of none", none.together(item, item), 0);
        }
    }

    private void togetherOutside() {
        sentence("Promise 11", "OUTSIDE: both.");
        for (Riddle x : new Riddle[] {new Riddle(), solved(), Riddle.with("a1=a2")}) {
            for (int bad : NO_ITEMS) {
                due("together(" + bad + ", 0)", x.together(bad, 0), OUTSIDE);
                due("together(" + bad + ", 15)", x.together(bad, 15), OUTSIDE);
                due("together(0, " + bad + ")", x.together(0, bad), OUTSIDE);
                due("together(15, " + bad + ")", x.together(15, bad), OUTSIDE);
                due("together(" + bad + ", " + bad + ")", x.together(bad, bad), OUTSIDE);
            }
        }
    }

    private void metOfASet() {
        sentence("Promise 12", "How many GRIDS meet all CLUES of a set");
        due("met(0) of no clue", new Riddle().met(0), ALL);
        Riddle x = solved();
        due("met(0) of twelve", x.met(0), ALL);
        due("met(4095) of twelve", x.met(4095), 1);
        for (int clue = 0; clue < 12; clue++) {
            due("met() of clue " + clue + " alone", x.met(1 << clue), ALL / 4);
            due("met() of all but clue " + clue, x.met(4095 - (1 << clue)), 2);
        }
        due("met(4095) of twelve that every GRID meets", idle().met(4095), ALL);
    }

    private void metWhateverTheOthers() {
        sentence("Promise 12", "whatever the others");
        Riddle x = Riddle.with("a1=a2", "b1@1", "d1=d2|d3");
        due("answers()", x.answers(), 0);
        due("met(0)", x.met(0), ALL);
        due("met(1)", x.met(1), 0);
        due("met(2)", x.met(2), ALL / 4);
        due("met(3)", x.met(3), 0);
        due("met(4)", x.met(4), 0);
        due("met(6)", x.met(6), 0);
    }

    private void metOutside() {
        sentence("Promise 12", "OUTSIDE: it is not a set of CLUES.");
        Riddle x = new Riddle();
        for (int clues = 0; clues <= 12; clues++) {
            int end = 1 << clues;
            due("met(" + (end - 1) + ") of " + clues, x.met(end - 1), ALL);
            for (int set : new int[] {MIN, MIN + 1, -end, -2, -1, end, end + 1, 2 * end - 1, 2 * end, 1 << 12, 1 << 16,
                    1 << 30, (1 << 30) + 1, MAX - 1, MAX}) {
                due("met(" + set + ") of " + clues, x.met(set), OUTSIDE);
            }
            if (clues < 12) {
                x.add("a1!a2");
            }
        }
        x.drop(5);
        due("met(2047) behind drop()", x.met(2047), ALL);
        due("met(2048) behind drop()", x.met(2048), OUTSIDE);
    }

    private void needlessSet() {
        sentence("Promise 13", "The set of all CLUES that are NEEDLESS.");
        due("needless() of no clue", new Riddle().needless(), 0);
        due("needless() of twelve, all", idle().needless(), 4095);
        due("needless() of twelve, none", solved().needless(), 0);
        due("needless() of one", Riddle.with("a1!a2").needless(), 1);
        due("needless() of one that is needed", Riddle.with("a1!b2").needless(), 0);
        Riddle last = solved();
        last.drop(0);
        last.add("a1!a2");
        due("needless() of twelve, the last alone", last.needless(), 2048);
        Riddle first = Riddle.with("a1!a2", "a2@2", "a3@3", "b1@1", "b2@2", "b3@3", "c1@1", "c2@2", "c3@3", "d1@1",
            "d2@2", "d3@3");
        due("needless() of twelve, the first alone", first.needless(), 1);
        due("count(0), which needless() leaves", first.count(0), 12);
    }

    private void coreSet() {
        sentence("Promise 14", "THE CORE, a set.");
        due("core() of no clue", new Riddle().core(), 0);
        due("core() of one that is needed", Riddle.with("a1@1").core(), 1);
        due("core() of one that is needless", Riddle.with("a1!a2").core(), 0);
        due("core() of twelve, all", solved().core(), 4095);
        Riddle x = idle();
        due("core() of twelve, none", x.core(), 0);
        due("count(0), which core() leaves", x.count(0), 12);
        x.drop(0);
        x.add("a1=a2");
        due("core() of twelve, the last alone", x.core(), 2048);
    }

    private void trimGo() {
        sentence("Promise 15", "All CLUES that are not in THE CORE go");
        Riddle ends = Riddle.with("a1!a2", "b1@1", "b1!b2", "c1@1", "d1!d2");
        due("needless() ahead of it", ends.needless(), 21);
        due("core() ahead of it", ends.core(), 10);
        due("step(0, 1) ahead of it", ends.step(0, 1), 1);
        due("trim(), the first and the last going", ends.trim(), 2);
        same("what is seen then", ends.seen(), Riddle.with("b1@1", "c1@1").seen());
        due("told(0, 1)", ends.told(0, 1), 4);
        due("told(1, 1)", ends.told(1, 1), 8);
        due("told(2, 1)", ends.told(2, 1), UNKNOWN);
        Riddle all = idle();
        due("trim(), all going", all.trim(), 0);
        due("told(0, 0)", all.told(0, 0), UNKNOWN);
        due("met(1)", all.met(1), OUTSIDE);
        Riddle none = solved();
        String seen = none.seen();
        due("trim(), none going", none.trim(), 12);
        same("what is seen behind trim()", none.seen(), seen);
    }

    private void trimTellsHowMany() {
        sentence("Promise 15", "how many there are then");
        due("trim() of no clue", new Riddle().trim(), 0);
        Riddle x = idle();
        x.text("c1=");
        x.clue();
        x.image(1);
        due("trim() of twelve that are needless", x.trim(), 0);
        due("trim() once more", x.trim(), 0);
        due("count(0)", x.count(0), 0);
        due("count(1): the text stays", x.count(1), 3);
        due("count(2): the FAULT stays", x.count(2), 3);
        due("restore(1): the IMAGE stays", x.restore(1), 1);
        due("count(0)", x.count(0), 12);
        x.wipe();
        x.drop(0);
        due("clue()", x.text("d1@1").clue(), 11);
        due("trim() of one that is needed", x.trim(), 1);
        due("trim() of no ANSWER", Riddle.with("a1@1", "a1@2", "a1@3", "b1@1").trim(), 2);
    }
}
