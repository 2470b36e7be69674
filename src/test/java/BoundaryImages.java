/** Promises 19 to 21: the two IMAGES, and what is counted. */
final class BoundaryImages extends BoundaryPart {
    private static final String[] OF_KIND = {"a1=b1", "a1!b1", "a1<b1", "a1+b1", "a1~b1", "a1@1", "a1=b1|c1"};

    BoundaryImages(Boundary boundary) {
        super(boundary);
    }

    @Override
    void run() {
        imageKeepsAll();
        imageInPlaceOfAnother();
        imageOutside();
        restoreAsTheyWere();
        restoreBehindTrim();
        restoreLeavesTheRest();
        imageStays();
        restoreOutside();
        restoreState();
        countClues();
        countKinds();
        countSigns();
        countLatestFault();
        countFaultStays();
        countNoFaultYet();
        countImages();
        countOutside();
    }

    private void imageKeepsAll() {
        sentence("Promise 19", "All CLUES are kept in an IMAGE (0, 1)");
        for (int k = 0; k <= 1; k++) {
            Riddle empty = new Riddle();
            due("image(" + k + ") of no clue", empty.image(k), 1);
            empty.add("a1@1");
            due("restore(" + k + ")", empty.restore(k), 1);
            due("count(0)", empty.count(0), 0);
            Riddle full = solved();
            String seen = full.seen();
            due("image(" + k + ") of twelve", full.image(k), 1);
            while (full.count(0) > 0) {
                full.drop(0);
            }
            due("restore(" + k + ")", full.restore(k), 1);
            same("what is seen", full.seen(), seen);
        }
    }

    private void imageInPlaceOfAnother() {
        sentence("Promise 19", "in place of what was kept there: 1");
        Riddle x = solved();
        due("image(0) of twelve", x.image(0), 1);
        due("image(1) of twelve", x.image(1), 1);
        for (int k = 0; k < 12; k++) {
            x.drop(0);
        }
        due("image(0) of none, in place of twelve", x.image(0), 1);
        x.add("b1@2");
        due("restore(0)", x.restore(0), 1);
        due("count(0)", x.count(0), 0);
        due("restore(1), the other one", x.restore(1), 1);
        due("count(0)", x.count(0), 12);
        due("image(0) of twelve, in place of none", x.image(0), 1);
        due("drop(0)", x.drop(0), 11);
        due("image(1) of eleven, in place of twelve", x.image(1), 1);
        due("restore(0)", x.restore(0), 1);
        due("count(0)", x.count(0), 12);
        due("restore(1)", x.restore(1), 1);
        due("count(0)", x.count(0), 11);
        due("told(10, 1)", x.told(10, 1), 14);
    }

    private void imageOutside() {
        sentence("Promise 19", "OUTSIDE.");
        Riddle x = Riddle.with("a1@1");
        for (int k : NO_IMAGES) {
            due("image(" + k + ")", x.image(k), OUTSIDE);
        }
        due("count(3)", x.count(3), 0);
        due("restore(0)", x.restore(0), STATE);
        due("restore(1)", x.restore(1), STATE);
    }

    private void restoreAsTheyWere() {
        sentence("Promise 20", "They are as they were when they were kept");
        Riddle x = Riddle.with("a1=b1|c1", "b1@2", "c1<d1");
        String seen = x.seen();
        x.image(0);
        x.drop(1);
        same("what is seen behind drop()", x.seen(), Riddle.with("a1=b1|c1", "c1<d1").seen());
        due("restore(0) behind drop()", x.restore(0), 1);
        same("what is seen", x.seen(), seen);
        x.add("a1!a2");
        due("restore(0) behind clue()", x.restore(0), 1);
        same("what is seen", x.seen(), seen);
    }

    private void restoreBehindTrim() {
        sentence("Promise 20", "They are as they were when they were kept");
        Riddle x = Riddle.with("a1!a2", "a1=b1|c1", "b1!b2");
        String seen = x.seen();
        x.image(1);
        due("trim()", x.trim(), 1);
        same("what is seen behind trim()", x.seen(), Riddle.with("a1=b1|c1").seen());
        due("restore(1) behind trim()", x.restore(1), 1);
        same("what is seen", x.seen(), seen);
        due("restore(1) with no change between", x.restore(1), 1);
        same("what is seen", x.seen(), seen);
    }

    /** "All CLUES are kept", and nothing else: THE TEXT, the latest FAULT and the other IMAGE are as they are now. */
    private void restoreLeavesTheRest() {
        sentence("Promise 20", "They are as they were");
        Riddle x = Riddle.with("a1@1").text("b2");
        x.image(0);
        x.text("=c");
        due("clue()", x.clue(), FAULT);
        x.text("4");
        x.drop(0);
        x.image(1);
        due("restore(0)", x.restore(0), 1);
        due("count(1)", x.count(1), 5);
        due("count(2)", x.count(2), 4);
        due("count(3)", x.count(3), 3);
        due("clue() of b2=c4", x.clue(), 1);
        due("told(1, 2)", x.told(1, 2), 11);
        due("restore(1)", x.restore(1), 1);
        due("count(0)", x.count(0), 0);
    }

    private void imageStays() {
        sentence("Promise 20", "the IMAGE stays: 1");
        Riddle x = Riddle.with("a1@1", "b1@2");
        x.image(1);
        for (int time = 0; time < 12; time++) {
            due("restore(1), time " + time, x.restore(1), 1);
            due("count(3)", x.count(3), 2);
            due("count(0)", x.count(0), 2);
            due("told(1, 1)", x.told(1, 1), 4);
            x.drop(time % 2);
            x.add("d1@" + (1 + time % 4));
        }
    }

    private void restoreOutside() {
        sentence("Promise 20", "OUTSIDE");
        Riddle none = Riddle.with("a1@1");
        Riddle both = Riddle.with("a1@1");
        both.image(0);
        both.image(1);
        both.add("b1@1");
        for (int k : NO_IMAGES) {
            due("restore(" + k + "), none kept", none.restore(k), OUTSIDE);
            due("restore(" + k + "), both kept", both.restore(k), OUTSIDE);
        }
        due("count(0)", both.count(0), 2);
        due("count(3)", both.count(3), 3);
    }

    private void restoreState() {
        sentence("Promise 20", "STATE: nothing was kept in it.");
        for (int k = 0; k <= 1; k++) {
            Riddle x = Riddle.with("a1@1", "c1@1");
            due("restore(" + k + ")", x.restore(k), STATE);
            due("count(0)", x.count(0), 2);
            due("image(" + (1 - k) + ")", x.image(1 - k), 1);
            due("restore(" + k + "), the other one kept", x.restore(k), STATE);
            due("restore(" + (1 - k) + ")", x.restore(1 - k), 1);
            due("restore(" + k + "), the other one restored", x.restore(k), STATE);
            due("image(" + k + ")", x.image(k), 1);
            due("restore(" + k + ") then", x.restore(k), 1);
        }
    }

    private void countClues() {
        sentence("Promise 21", "How many CLUES there are (0)");
        Riddle x = new Riddle();
        for (int clues = 0; clues < 12; clues++) {
            due("count(0)", x.count(0), clues);
            x.add("a1!a2");
        }
        due("count(0) of twelve", x.count(0), 12);
        x.text("a1!a2").clue();
        due("count(0) behind the 13th", x.count(0), 12);
        for (int clues = 11; clues >= 0; clues--) {
            x.drop(0);
            due("count(0) behind drop()", x.count(0), clues);
        }
        x.drop(0);
        due("count(0) behind drop() of none", x.count(0), 0);
    }

    private void countKinds() {
        sentence("Promise 21", "of KIND k (10 and k: 10 to 16)");
        for (int kind = 0; kind < 7; kind++) {
            Riddle x = new Riddle();
            for (int clues = 0; clues <= 12; clues++) {
                due("count(" + (10 + kind) + ") of " + clues, x.count(10 + kind), clues);
                if (clues < 12) {
                    x.add(OF_KIND[kind]);
                }
            }
            for (int other = 0; other < 7; other++) {
                due("count(" + (10 + other) + ") of KIND " + kind, x.count(10 + other), other == kind ? 12 : 0);
            }
        }
    }

    private void countSigns() {
        sentence("Promise 21", "signs of THE TEXT (1)");
        Riddle x = new Riddle();
        for (int n = 0; n < 10; n++) {
            due("count(1)", x.count(1), n);
            x.say('~');
        }
        due("count(1) of a full text", x.count(1), 10);
        x.say('~');
        due("count(1) behind the eleventh", x.count(1), 10);
        x.say(32);
        due("count(1) behind what is no sign", x.count(1), 10);
        x.wipe();
        due("count(1) of a wiped text", x.count(1), 0);
    }

    private void countLatestFault() {
        sentence("Promise 21", "the place of the latest FAULT that clue() told");
        String[] texts = {"", "a", "a1", "a1=", "a1=b", "a1!b2~", "a1=b2|", "a1=b2|c", "a1=b2|c3|"};
        Riddle x = new Riddle();
        for (int place = 0; place <= 8; place++) {
            due("clue() of '" + texts[place] + "'", x.text(texts[place]).clue(), FAULT);
            due("count(2)", x.count(2), place);
            x.wipe();
        }
        due("clue() of nothing", x.clue(), FAULT);
        due("count(2) of a lesser one", x.count(2), 0);
    }

    private void countFaultStays() {
        sentence("Promise 21", "which stays till clue() tells another one");
        Riddle x = new Riddle().text("a1@");
        x.clue();
        x.say('5');
        due("fault()", x.fault(), 3);
        x.wipe();
        due("fault()", x.fault(), 0);
        due("count(2) behind wipe() and fault()", x.count(2), 3);
        due("clue() that is taken", x.text("a1@1").clue(), 0);
        due("count(2)", x.count(2), 3);
        due("clue() that answers NO", x.text("a1=a1").clue(), NO);
        due("count(2)", x.count(2), 3);
        x.wipe();
        for (int k = 1; k < 12; k++) {
            x.add("b1!b2");
        }
        due("clue() that answers FULL", x.text("b1!b2").clue(), FULL);
        due("count(2)", x.count(2), 3);
        x.image(0);
        x.trim();
        x.restore(0);
        x.drop(0);
        due("count(2) behind image(), trim(), restore(), drop()", x.count(2), 3);
        x.say('|');
        due("clue() of another FAULT", x.clue(), FAULT);
        due("count(2)", x.count(2), 5);
    }

    private void countNoFaultYet() {
        sentence("Promise 21", "(2; NONE: none yet)");
        Riddle x = new Riddle();
        due("count(2) of a new object", x.count(2), NONE);
        due("fault()", x.fault(), 0);
        due("count(2) behind fault()", x.count(2), NONE);
        x.text("a1=a1");
        due("clue()", x.clue(), NO);
        due("count(2) behind NO", x.count(2), NONE);
        x.wipe();
        x.add("a1@1");
        due("count(2) behind a clue", x.count(2), NONE);
        for (int k = 1; k < 12; k++) {
            x.add("b1!b2");
        }
        due("clue()", x.text("b1!b2").clue(), FULL);
        due("count(2) behind FULL", x.count(2), NONE);
        x.wipe();
        x.clue();
        due("count(2) behind FAULT at place 0", x.count(2), 0);
    }

    private void countImages() {
        sentence("Promise 21", "which IMAGES are kept, a set: bits 0, 1 (3");
        for (int k = 0; k <= 1; k++) {
            Riddle x = new Riddle();
            due("count(3) of none", x.count(3), 0);
            x.image(k);
            due("count(3) behind image(" + k + ")", x.count(3), 1 << k);
            x.image(k);
            due("count(3) behind image(" + k + ") again", x.count(3), 1 << k);
            x.restore(k);
            x.restore(1 - k);
            due("count(3) behind restore()", x.count(3), 1 << k);
            x.image(2);
            x.image(-1);
            due("count(3) behind what is refused", x.count(3), 1 << k);
            x.image(1 - k);
            due("count(3) of both", x.count(3), 3);
        }
    }

    private void countOutside() {
        sentence("Promise 21", "OUTSIDE.");
        for (Riddle x : new Riddle[] {new Riddle(), solved(), idle().text("a1@")}) {
            for (int what : new int[] {MIN, MIN + 1, -10, -2, -1, 4, 5, 6, 7, 8, 9, 17, 18, 20, 26, 32, 256,
                    MAX - 1, MAX}) {
                due("count(" + what + ")", x.count(what), OUTSIDE);
            }
        }
    }
}
