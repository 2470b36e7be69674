/** Part 3 of "Terms", and promises 16 to 18: the STEPS, their RULES and their order, THE END. */
final class BoundaryStrikes extends BoundaryPart {
    private static final int[] NO_WHATS = {MIN, MIN + 1, -2, -1, 4, 5, 16, 32, MAX - 1, MAX};

    BoundaryStrikes(Boundary boundary) {
        super(boundary);
    }

    @Override
    void run() {
        atFirstAllAreLeft();
        untilNoPlaceIsLeft();
        untilNothingCanBeStruck();
        onePlaceFromOneItem();
        firstRuleThatStrikes();
        ruleZeroOfEachKind();
        ruleZeroOfThreeItems();
        ruleZeroOfItemsAtOnePlace();
        ruleZeroByRisingClues();
        ruleZeroByItemsAsTheyStand();
        ruleOne();
        ruleOneInOrder();
        ruleTwo();
        ruleTwoInOrder();
        endZero();
        endOne();
        endTwo();
        stepTells();
        stepClue();
        stepHowMany();
        stepNone();
        stepOutside();
        stepOutsideAheadOfNone();
        leftBits();
        leftOfAllIfFewer();
        leftOutside();
        endBehindAll();
    }

    /** As many STEPS as there can be: fifteen ITEMS lose three PLACES each, and at last d4 loses its fourth. */
    private static Riddle longest() {
        return Riddle.with("a1+a2", "a2+a3", "a3+a4", "b1+b2", "b2+b3", "b3+b4", "c1+c2", "c2+c3", "c3+c4",
            "d1+d2", "d2+d3", "d4=d3");
    }

    /** No STEP, some that lead to nothing, as many as solve it, and as many as there can be. */
    private static Riddle[] several() {
        return new Riddle[] {new Riddle(), idle(), Riddle.with("a2@2"), Riddle.with("a1@1", "a1@2"), solved(),
            longest()};
    }

    private static final int[] STEPS_OF_SEVERAL = {0, 0, 6, 4, 48, 49};

    private void atFirstAllAreLeft() {
        sentence("Part 3", "A PLACE is LEFT to an ITEM, as long as it is not STRUCK; at first all are.");
        for (Riddle x : several()) {
            for (int item = 0; item < 16; item++) {
                due("left(" + item + ", 0)", x.left(item, 0), 30);
            }
        }
    }

    private void untilNoPlaceIsLeft() {
        sentence("Part 3", "STEPS come one after another till there is an ITEM to which no PLACE is LEFT");
        stepsAre(Riddle.with("a1@1", "a1@2", "b1@1"), is(0, 0, 0, 2), is(0, 0, 0, 3), is(0, 0, 0, 4), is(0, 1, 0, 1));
        stepsAre(Riddle.with("d1@4", "d1<a1", "b1@1"), is(0, 0, 12, 1), is(0, 0, 12, 2), is(0, 0, 12, 3),
            is(0, 1, 12, 4));
        Riddle x = longest();
        due("step(-1, 0) of the longest", x.step(-1, 0), 49);
        stepIs(x, 48, 1, NONE, 15, 3);
        due("left(15, 48)", x.left(15, 48), 8);
        due("left(15, 49)", x.left(15, 49), 0);
        due("step(49, 0)", x.step(49, 0), NONE);
    }

    private void untilNothingCanBeStruck() {
        sentence("Part 3", "or nothing can be STRUCK");
        stepsAre(new Riddle());
        stepsAre(idle());
        stepsAre(Riddle.with("a1=a2"));
        stepsAre(Riddle.with("a1=b1", "b1=c1", "c1!a1"));
        Riddle x = solved();
        due("step(-1, 0) of what is solved", x.step(-1, 0), 48);
        due("step(48, 0)", x.step(48, 0), NONE);
    }

    private void onePlaceFromOneItem() {
        sentence("Part 3", "In each STEP one PLACE is STRUCK from one ITEM");
        for (Riddle x : several()) {
            int steps = x.step(-1, 0);
            for (int k = 0; k < steps; k++) {
                int item = x.step(k, 2);
                due("PLACES gone from ITEM " + item + " by STEP " + k, x.left(item, k) - x.left(item, k + 1),
                    1 << x.step(k, 3));
            }
        }
    }

    private void firstRuleThatStrikes() {
        sentence("Part 3", "by the first RULE that strikes any, and there the first in the order told");
        stepsAre(Riddle.with("a1<a2", "a1<a3", "a1<a4", "d4@4"),
            is(0, 0, 0, 4), is(0, 0, 1, 1), is(0, 1, 2, 1), is(0, 2, 3, 1),
            is(0, 3, 15, 1), is(0, 3, 15, 2), is(0, 3, 15, 3),
            is(1, NONE, 12, 4), is(1, NONE, 13, 4), is(1, NONE, 14, 4),
            is(2, NONE, 0, 2), is(2, NONE, 0, 3));
        stepsAre(Riddle.with("b4=a1", "a1<a2", "a1<a3", "a1<a4"),
            is(0, 1, 0, 4), is(0, 0, 7, 4), is(0, 1, 1, 1), is(0, 2, 2, 1), is(0, 3, 3, 1),
            is(2, NONE, 0, 2), is(0, 0, 7, 2), is(2, NONE, 0, 3), is(0, 0, 7, 3),
            is(1, NONE, 4, 1), is(1, NONE, 5, 1), is(1, NONE, 6, 1));
    }

    /** A row for each PLACE of x, a sign for each PLACE of y: 1, if the clue is met. */
    private void ruleZeroOf(char sign, String... rows) {
        for (int p = 1; p <= 4; p++) {
            int ofY = 0;
            int ofX = 0;
            for (int q = 1; q <= 4; q++) {
                ofY |= (rows[p - 1].charAt(q - 1) - '0') << q;
                ofX |= (rows[q - 1].charAt(p - 1) - '0') << q;
            }
            String told = " of c2" + sign + "b3, at " + p;
            Riddle first = Riddle.with("c2@" + p, "c2" + sign + "b3");
            due("left(x, 64)" + told, first.left(9, 64), ofY == 0 ? 0 : 1 << p);
            due("left(y, 64)" + told, first.left(6, 64), ofY == 0 ? 30 : ofY);
            due("end()" + told, first.end(), ofY == 0 ? 2 : 1);
            Riddle second = Riddle.with("b3@" + p, "c2" + sign + "b3");
            due("left(x, 64), y" + told, second.left(9, 64), ofX);
            due("left(y, 64), y" + told, second.left(6, 64), 1 << p);
            due("end(), y" + told, second.end(), ofX == 0 ? 2 : 1);
        }
    }

    private void ruleZeroOfEachKind() {
        sentence("Part 3", "RULE 0: a CLUE strikes PLACE p from an ITEM x of it, if there are no PLACES LEFT to its "
            + "other ITEMS by which it is met, x being at p");
        ruleZeroOf('=', "1000", "0100", "0010", "0001");
        ruleZeroOf('!', "0111", "1011", "1101", "1110");
        ruleZeroOf('<', "0111", "0011", "0001", "0000");
        ruleZeroOf('+', "0100", "0010", "0001", "0000");
        ruleZeroOf('~', "0100", "1010", "0101", "0010");
        for (int p = 1; p <= 4; p++) {
            due("left(14, 64) of d3@" + p + ", which has no other ITEM", Riddle.with("d3@" + p).left(14, 64), 1 << p);
        }
        due("left(0, 64) of a1!b1, two PLACES being LEFT to b1",
            Riddle.with("b1+b2", "b2+b3", "a1!b1").left(0, 64), 30);
        due("left(0, 64) of a1~b1, all being LEFT to b1", Riddle.with("a1~b1").left(0, 64), 30);
    }

    private void ruleZeroOfThreeItems() {
        sentence("Part 3", "if there are no PLACES LEFT to its other ITEMS by which it is met, x being at p");
        for (int places = 0; places < 16; places++) {
            int p = 1 + places % 4;
            int q = 1 + places / 4;
            String told = " of a1=b1|c1 with " + p + " and " + q;
            due("left(0, 64)" + told, Riddle.with("b1@" + p, "c1@" + q, "a1=b1|c1").left(0, 64), 1 << p | 1 << q);
            due("left(8, 64)" + told, Riddle.with("a1@" + p, "b1@" + q, "a1=b1|c1").left(8, 64), p == q ? 30 : 1 << p);
            due("left(4, 64)" + told, Riddle.with("a1@" + p, "c1@" + q, "a1=b1|c1").left(4, 64), p == q ? 30 : 1 << p);
        }
        due("step(-1, 0) of a1=b1|c1", Riddle.with("a1=b1|c1").step(-1, 0), 0);
        due("left(4, 64), a1 alone having a PLACE", Riddle.with("a1@1", "a1=b1|c1").left(4, 64), 30);
        due("left(0, 64), b1 alone having a PLACE", Riddle.with("b1@1", "a1=b1|c1").left(0, 64), 30);
    }

    private void ruleZeroOfItemsAtOnePlace() {
        sentence("Part 3", "(whether these are unlike or not is no matter)");
        stepsAre(Riddle.with("a1=b1|b2", "a1@3", "b1@3"), is(0, 1, 0, 1), is(0, 1, 0, 2), is(0, 1, 0, 4),
            is(0, 2, 4, 1), is(0, 2, 4, 2), is(0, 2, 4, 4), is(1, NONE, 1, 3), is(1, NONE, 2, 3), is(1, NONE, 3, 3),
            is(1, NONE, 5, 3), is(1, NONE, 6, 3), is(1, NONE, 7, 3));
        stepsAre(Riddle.with("a1=a2", "a1@1"), is(0, 1, 0, 2), is(0, 0, 1, 2), is(0, 1, 0, 3), is(0, 0, 1, 3),
            is(0, 1, 0, 4), is(0, 0, 1, 4), is(1, NONE, 1, 1));
        stepsAre(Riddle.with("c1=c2|c3"));
    }

    private void ruleZeroByRisingClues() {
        sentence("Part 3", "by rising CLUES, then ITEMS as they stand in it, then rising PLACES (those LEFT to x)");
        stepsAre(Riddle.with("d1@4", "a1@1"), is(0, 0, 12, 1), is(0, 0, 12, 2), is(0, 0, 12, 3),
            is(0, 1, 0, 2), is(0, 1, 0, 3), is(0, 1, 0, 4), is(1, NONE, 1, 1), is(1, NONE, 2, 1), is(1, NONE, 3, 1),
            is(1, NONE, 13, 4), is(1, NONE, 14, 4), is(1, NONE, 15, 4));
        stepsAre(Riddle.with("a1<b1", "a1<b1"), is(0, 0, 0, 4), is(0, 0, 4, 1));
        Riddle last = idle();
        last.drop(0);
        stepIs(last.add("d4@4"), 0, 0, 11, 15, 1);
    }

    private void ruleZeroByItemsAsTheyStand() {
        sentence("Part 3", "then ITEMS as they stand in it");
        stepsAre(Riddle.with("d1<a1"), is(0, 0, 12, 4), is(0, 0, 0, 1));
        stepsAre(Riddle.with("a1<d1"), is(0, 0, 0, 4), is(0, 0, 12, 1));
        stepsAre(Riddle.with("c1@4", "a1+a2", "a2+a3", "b2+b1", "b1+b3", "a1=b1|c1"),
            is(0, 0, 8, 1), is(0, 0, 8, 2), is(0, 0, 8, 3), is(0, 1, 0, 4), is(0, 1, 1, 1), is(0, 2, 1, 4),
            is(0, 1, 0, 3), is(0, 2, 2, 1), is(0, 2, 2, 2), is(0, 3, 5, 4), is(0, 3, 4, 1), is(0, 4, 4, 4),
            is(0, 3, 5, 3), is(0, 4, 6, 1), is(0, 4, 6, 2),
            is(0, 5, 0, 1), is(0, 1, 1, 2), is(0, 2, 2, 3), is(0, 5, 4, 3), is(0, 3, 5, 2), is(0, 4, 6, 4),
            is(1, NONE, 3, 2), is(1, NONE, 3, 3), is(1, NONE, 3, 4), is(1, NONE, 7, 2), is(1, NONE, 7, 1),
            is(1, NONE, 7, 3), is(1, NONE, 9, 4), is(1, NONE, 10, 4), is(1, NONE, 11, 4));
        stepsAre(Riddle.with("a1@2", "b1@1", "a1=b1|c1"), is(0, 0, 0, 1), is(0, 0, 0, 3), is(0, 0, 0, 4),
            is(0, 1, 4, 2), is(0, 1, 4, 3), is(0, 1, 4, 4), is(0, 2, 8, 1), is(0, 2, 8, 3), is(0, 2, 8, 4),
            is(1, NONE, 1, 2), is(1, NONE, 2, 2), is(1, NONE, 3, 2), is(1, NONE, 5, 1), is(1, NONE, 6, 1),
            is(1, NONE, 7, 1), is(1, NONE, 9, 2), is(1, NONE, 10, 2), is(1, NONE, 11, 2));
    }

    private void ruleOne() {
        sentence("Part 3", "RULE 1: an ITEM to which one PLACE alone is LEFT strikes that from another ITEM of its "
            + "CATEGORY to which it is LEFT");
        for (int item = 0; item < 16; item++) {
            for (int p = 1; p <= 4; p++) {
                Riddle x = Riddle.with(name(item) + "@" + p);
                due("step(-1, 0) of " + name(item) + "@" + p, x.step(-1, 0), 6);
                for (int other = 0; other < 16; other++) {
                    int want = other == item ? 1 << p : other / 4 == item / 4 ? 30 - (1 << p) : 30;
                    due("left(" + other + ", 64) of " + name(item) + "@" + p, x.left(other, 64), want);
                }
            }
        }
        stepsAre(Riddle.with("a1+a2", "a2+a3"), is(0, 0, 0, 4), is(0, 0, 1, 1), is(0, 1, 1, 4), is(0, 0, 0, 3),
            is(0, 1, 2, 1), is(0, 1, 2, 2));
    }

    private void ruleOneInOrder() {
        sentence("Part 3", "by rising ITEMS, then by rising other ITEMS");
        stepsAre(Riddle.with("b4@1", "b1@2"), is(0, 0, 7, 2), is(0, 0, 7, 3), is(0, 0, 7, 4),
            is(0, 1, 4, 1), is(0, 1, 4, 3), is(0, 1, 4, 4),
            is(1, NONE, 5, 2), is(1, NONE, 6, 2), is(1, NONE, 5, 1), is(1, NONE, 6, 1));
    }

    private void ruleTwo() {
        sentence("Part 3", "RULE 2: a PLACE that is LEFT to one ITEM alone of a CATEGORY strikes all others from it");
        stepsAre(Riddle.with("d2<d1", "d3<d1", "d4<d1"), is(0, 0, 13, 4), is(0, 0, 12, 1), is(0, 1, 14, 4),
            is(0, 2, 15, 4), is(2, NONE, 12, 2), is(2, NONE, 12, 3));
        stepsAre(Riddle.with("d2<d1", "d3<d1"), is(0, 0, 13, 4), is(0, 0, 12, 1), is(0, 1, 14, 4));
        stepsAre(Riddle.with("d2<d1", "d3<d1", "c4<d1"), is(0, 0, 13, 4), is(0, 0, 12, 1), is(0, 1, 14, 4),
            is(0, 2, 11, 4));
    }

    private void ruleTwoInOrder() {
        sentence("Part 3", "by rising CATEGORIES, then PLACES, then by rising others that are LEFT to it");
        Riddle x = Riddle.with("b1<b2", "b1<b3", "b2<b4", "b3<b4", "a1<a2", "a1<a3", "a2<a4", "a3<a4");
        due("step(-1, 0)", x.step(-1, 0), 20);
        due("step(15, 0)", x.step(15, 0), 0);
        stepIs(x, 16, 2, NONE, 0, 2);
        stepIs(x, 17, 2, NONE, 3, 3);
        stepIs(x, 18, 2, NONE, 4, 2);
        stepIs(x, 19, 2, NONE, 7, 3);
        stepsAre(Riddle.with("c3<c1", "c3<c2", "c3<c4"), is(0, 0, 10, 4), is(0, 0, 8, 1), is(0, 1, 9, 1),
            is(0, 2, 11, 1), is(2, NONE, 10, 2), is(2, NONE, 10, 3));
    }

    private void endZero() {
        sentence("Part 3", "THE END: 0 each ITEM has one PLACE LEFT");
        Riddle x = solved();
        due("end()", x.end(), 0);
        for (int item = 0; item < 16; item++) {
            due("left(" + item + ", 64)", x.left(item, 64), 2 << item % 4);
        }
        due("end() of chains", Riddle.with("a1+a2", "a2+a3", "a3+a4", "b1=a1", "b2=a2", "b3=a3", "c1=a1", "c2=a2",
            "c3=a3", "d1=a1", "d2=a2", "d3=a3").end(), 0);
    }

    private void endOne() {
        sentence("Part 3", "1 some have more, and none has none");
        due("end() of no clue", new Riddle().end(), 1);
        due("end() of twelve that strike nothing", idle().end(), 1);
        for (int clue = 0; clue < 12; clue++) {
            Riddle x = solved();
            x.drop(clue);
            due("end() without clue " + clue + " of twelve", x.end(), 1);
        }
        due("end() of no ANSWER, with nothing to strike", Riddle.with("a1=a2").end(), 1);
    }

    private void endTwo() {
        sentence("Part 3", "2 an ITEM has none");
        due("end(), the others having one", longest().end(), 2);
        due("end(), the others having all", Riddle.with("a1@1", "a1@2").end(), 2);
        for (int item = 0; item < 16; item++) {
            Riddle x = Riddle.with(name(item) + "@4", name(item) + "@1");
            due("end(), none being LEFT to ITEM " + item, x.end(), 2);
            due("left(" + item + ", 64)", x.left(item, 64), 0);
        }
        due("end() by RULE 1", Riddle.with("d3@2", "d4@2").end(), 2);
    }

    private void stepTells() {
        sentence("Promise 16", "Of the k-th STEP, from 0 on: the RULE (what = 0)");
        Riddle x = longest();
        due("step(0, 0)", x.step(0, 0), 0);
        due("step(0, 1)", x.step(0, 1), 0);
        due("step(0, 2)", x.step(0, 2), 0);
        due("step(0, 3)", x.step(0, 3), 4);
        due("step(48, 0), the last that can be", x.step(48, 0), 1);
        due("step(48, 2)", x.step(48, 2), 15);
        due("step(48, 3)", x.step(48, 3), 3);
    }

    private void stepClue() {
        sentence("Promise 16", "the CLUE (1; NONE: RULES 1, 2)");
        Riddle x = Riddle.with("a1<a2", "a1<a3", "a1<a4", "d4@4");
        int[] clues = {0, 0, 1, 2, 3, 3, 3, NONE, NONE, NONE, NONE, NONE};
        for (int k = 0; k < clues.length; k++) {
            due("step(" + k + ", 1)", x.step(k, 1), clues[k]);
        }
        due("step(7, 0)", x.step(7, 0), 1);
        due("step(11, 0)", x.step(11, 0), 2);
        Riddle last = idle();
        last.drop(11);
        due("step(0, 1) of the twelfth clue", last.add("d4@4").step(0, 1), 11);
    }

    private void stepHowMany() {
        sentence("Promise 16", "k = -1: how many STEPS there are (what is no matter, if it is 0 to 3)");
        Riddle[] riddles = several();
        for (int i = 0; i < riddles.length; i++) {
            for (int what = 0; what <= 3; what++) {
                due("step(-1, " + what + ")", riddles[i].step(-1, what), STEPS_OF_SEVERAL[i]);
            }
            for (int what : NO_WHATS) {
                due("step(-1, " + what + ")", riddles[i].step(-1, what), OUTSIDE);
            }
        }
    }

    private void stepNone() {
        sentence("Promise 16", "NONE: there is none such.");
        Riddle[] riddles = several();
        for (int i = 0; i < riddles.length; i++) {
            int steps = STEPS_OF_SEVERAL[i];
            for (int what = 0; what <= 3; what++) {
                if (steps > 0) {
                    int told = riddles[i].step(steps - 1, what);
                    due("step(last, " + what + ") is told", told >= 0 || what == 1 ? 1 : 0, 1);
                }
                for (int k : new int[] {steps, steps + 1, 49, 63, 64, 65, 256, 1 << 30, (1 << 30) + 1, MAX - 1, MAX}) {
                    due("step(" + k + ", " + what + ") of " + steps, riddles[i].step(k, what), NONE);
                }
            }
        }
    }

    private void stepOutside() {
        sentence("Promise 16", "OUTSIDE: k is below -1, what");
        for (Riddle x : several()) {
            for (int k : new int[] {MIN, MIN + 1, -1 << 30, -64, -7, -6, -3, -2}) {
                for (int what : new int[] {-1, 0, 3, 4}) {
                    due("step(" + k + ", " + what + ")", x.step(k, what), OUTSIDE);
                }
            }
            for (int what : NO_WHATS) {
                due("step(0, " + what + ")", x.step(0, what), OUTSIDE);
            }
        }
    }

    private void stepOutsideAheadOfNone() {
        sentence("Promise 16", "(ahead of NONE)");
        Riddle[] riddles = several();
        for (int i = 0; i < riddles.length; i++) {
            for (int what : NO_WHATS) {
                for (int k : new int[] {STEPS_OF_SEVERAL[i], 64, MAX}) {
                    due("step(" + k + ", " + what + ")", riddles[i].step(k, what), OUTSIDE);
                }
            }
        }
    }

    private void leftBits() {
        sentence("Promise 17", "The set of PLACES (bits 1 to 4) that are LEFT to an ITEM behind the first k STEPS");
        Riddle x = Riddle.with("d4@3");
        int[] ofItem = {30, 28, 24, 8, 8, 8, 8};
        int[] ofOther = {30, 30, 30, 30, 30, 30, 22};
        for (int k = 0; k <= 6; k++) {
            due("left(15, " + k + ")", x.left(15, k), ofItem[k]);
            due("left(14, " + k + ")", x.left(14, k), ofOther[k]);
            due("left(0, " + k + ")", x.left(0, k), 30);
        }
        for (int p = 1; p <= 4; p++) {
            due("left(0, 64) of a1@" + p, Riddle.with("a1@" + p).left(0, 64), 1 << p);
        }
        due("left(0, 64) of none", Riddle.with("a1@1", "a1@4").left(0, 64), 0);
    }

    private void leftOfAllIfFewer() {
        sentence("Promise 17", "(of all, if there are fewer)");
        Riddle[] riddles = several();
        for (int i = 0; i < riddles.length; i++) {
            int steps = STEPS_OF_SEVERAL[i];
            int item = steps == 0 ? 15 : riddles[i].step(steps - 1, 2);
            int all = riddles[i].left(item, steps);
            for (int k : new int[] {steps + 1, 50, 63, 64, 65, 1 << 30, MAX - 1, MAX}) {
                due("left(" + item + ", " + k + ") of " + steps, riddles[i].left(item, k), all);
            }
            if (steps > 0) {
                due("left(" + item + ", " + (steps - 1) + "), the last not yet done",
                    riddles[i].left(item, steps - 1) - all, 1 << riddles[i].step(steps - 1, 3));
            }
        }
    }

    private void leftOutside() {
        sentence("Promise 17", "OUTSIDE: the ITEM, k is below 0.");
        for (Riddle x : several()) {
            for (int item : NO_ITEMS) {
                due("left(" + item + ", 0)", x.left(item, 0), OUTSIDE);
                due("left(" + item + ", MAX)", x.left(item, MAX), OUTSIDE);
                due("left(" + item + ", -1)", x.left(item, -1), OUTSIDE);
            }
            for (int k : new int[] {MIN, MIN + 1, -64, -2, -1}) {
                due("left(0, " + k + ")", x.left(0, k), OUTSIDE);
                due("left(15, " + k + ")", x.left(15, k), OUTSIDE);
            }
        }
    }

    private void endBehindAll() {
        sentence("Promise 18", "THE END, behind all STEPS.");
        int[] ends = {1, 1, 1, 2, 0, 2};
        Riddle[] riddles = several();
        for (int i = 0; i < riddles.length; i++) {
            riddles[i].left(0, 0);
            due("end() behind left(0, 0)", riddles[i].end(), ends[i]);
            due("end() once more", riddles[i].end(), ends[i]);
        }
        Riddle x = solved();
        due("end()", x.end(), 0);
        x.drop(0);
        due("end() behind drop()", x.end(), 1);
        x.add("b1@2");
        due("end() behind clue()", x.end(), 2);
    }
}
