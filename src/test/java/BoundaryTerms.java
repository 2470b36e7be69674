import java.util.ArrayList;
import java.util.List;
import java.util.function.Supplier;
import java.util.function.ToIntFunction;

/** "What it is" and "Terms": the 512 calls, the order of refusals, what they leave as it was, sets as numbers. */
final class BoundaryTerms extends BoundaryPart {
    private static final int[] NO_SIGNS = {MIN, -97, -1, 0, 31, 32, 127, 128, 97 + 256, 97 + 65536, MAX};
    private static final int[] NO_PLACES = {MIN, -1, 0, 5, 6, 33, MAX};
    private static final int[] NEVER_CLUES = {MIN, -1, 12, 13, 32, MAX};
    private static final int[] NEVER_SETS = {MIN, MIN + 1, -4096, -1, 4096, 4097, 1 << 30, MAX};
    private static final int[] NO_COUNTS = {MIN, -1, 4, 5, 9, 17, 18, 26, MAX};

    /** A call that is refused, and how. */
    private record Refused(String call, ToIntFunction<Riddle> ask, int want) { }

    BoundaryTerms(Boundary boundary) {
        super(boundary);
    }

    @Override
    void run() {
        lastCallOfTheObject();
        dearestCallsToTheLast();
        sayRefusedTwice();
        clueRefusedTwice();
        toldRefusedTwice();
        restoreRefusedTwice();
        unknownAndOutsideLeaveAll();
        stateLeavesAll();
        fullTextLeavesAll();
        noLeavesAll();
        fullRowLeavesAll();
        faultLeavesAllButItsPlace();
        setsAreNumbers();
    }

    private void lastCallOfTheObject() {
        sentence("What it is", "An object is used for at most 512 calls");
        Riddle x = idle();
        x.text("c1@2");
        while (x.calls() < 510) {
            due("count(1), call " + (x.calls() + 1), x.count(1), 4);
        }
        due("drop(11), call 511", x.drop(11), 11);
        due("clue(), call 512", x.clue(), 11);
        due("calls", x.calls(), 512);
    }

    /** Clues about three categories each, found again by every second call: no call may be dearer than its room. */
    private void dearestCallsToTheLast() {
        sentence("What it is", "at most 512 calls after it has been made");
        Riddle x = Riddle.with("a1=c1|d1", "a2=c2|d2", "a3=c3|d3", "b1=c4|d1", "b2=c1|d2", "b3=c2|d3",
            "a4=c4|d4", "b4=c3|d4", "c1=a1|d4", "d2=a3|c2", "c2=b1|d1", "d1=b2|c3");
        due("image(0)", x.image(0), 1);
        int needless = x.needless();
        int core = x.core();
        while (x.calls() < 509) {
            due("restore(0)", x.restore(0), 1);
            due("needless()", x.needless(), needless);
            due("restore(0)", x.restore(0), 1);
            due("core()", x.core(), core);
        }
    }

    private void sayRefusedTwice() {
        sentence("Terms", "Calls that are refused answer the first that fits, in the order in which they are told");
        for (int sign : NO_SIGNS) {
            Riddle x = new Riddle().text("aaaaaaaaaa");
            due("say(" + sign + ") in a full text: OUTSIDE ahead of FULL", x.say(sign), OUTSIDE);
        }
    }

    private void clueRefusedTwice() {
        sentence("Terms", "Calls that are refused answer the first that fits, in the order in which they are told");
        due("clue() of a1=a1!: FAULT ahead of NO", new Riddle().text("a1=a1!").clue(), FAULT);
        due("clue() of a1=a1|b: FAULT ahead of NO", new Riddle().text("a1=a1|b").clue(), FAULT);
        due("clue() of c1@5 as the 13th: FAULT ahead of FULL", idle().text("c1@5").clue(), FAULT);
        due("clue() of nothing as the 13th: FAULT ahead of FULL", idle().clue(), FAULT);
        due("clue() of c1=c1 as the 13th: NO ahead of FULL", idle().text("c1=c1").clue(), NO);
        due("clue() of c1=d1|d1 as the 13th: NO ahead of FULL", idle().text("c1=d1|d1").clue(), NO);
        due("clue() of c1=c1| as the 13th: FAULT ahead of both", idle().text("c1=c1|").clue(), FAULT);
    }

    private void toldRefusedTwice() {
        sentence("Terms", "Calls that are refused answer the first that fits, in the order in which they are told");
        for (int what : new int[] {MIN, -1, 5, MAX}) {
            due("told(0, " + what + ") of none: UNKNOWN ahead of OUTSIDE", new Riddle().told(0, what), UNKNOWN);
            due("told(1, " + what + ") of one", Riddle.with("a1@1").told(1, what), UNKNOWN);
            due("told(-1, " + what + ") of one", Riddle.with("a1@1").told(-1, what), UNKNOWN);
            due("told(12, " + what + ") of twelve", idle().told(12, what), UNKNOWN);
        }
    }

    private void restoreRefusedTwice() {
        sentence("Terms", "Calls that are refused answer the first that fits, in the order in which they are told");
        for (int k : NO_IMAGES) {
            due("restore(" + k + "), nothing kept: OUTSIDE ahead of STATE", new Riddle().restore(k), OUTSIDE);
        }
    }

    /** A few clues, one IMAGE, a FAULT that was told, and a text that is a clue. */
    private static Riddle busy() {
        Riddle x = Riddle.with("a1=b1", "c2@3");
        x.image(0);
        x.add("d4=a1|c2").add("b2<d1").text("c3=");
        x.clue();
        x.wipe();
        return x.text("c3=d4|b1");
    }

    /** Twelve clues, two IMAGES, the second of no clue, and a text that is a clue. */
    private static Riddle crowded() {
        Riddle x = new Riddle();
        x.image(1);
        x.add("a1+b1").add("b1~c1").add("c1<d1");
        x.image(0);
        for (String clue : new String[] {"a2!a3", "a4@4", "b2=d2", "c2=d3|d4", "d1!c3", "a2<b4", "c4~a1", "b3@3",
                "d4=a2|b3"}) {
            x.add(clue);
        }
        return x.text("d2@2");
    }

    private void leavesAll(String state, Supplier<Riddle> made, List<Refused> calls) {
        String untouched = made.get().laidOpen();
        int latestFault = made.get().count(2);
        for (Refused refused : calls) {
            Riddle x = made.get();
            due(refused.call + " on " + state, refused.ask.applyAsInt(x), refused.want);
            due("count(2) behind " + refused.call + " on " + state, x.count(2), latestFault);
            same(refused.call + " on " + state + " leaves all", x.laidOpen(), untouched);
        }
    }

    private void unknownAndOutsideLeaveAll() {
        sentence("Terms", "What is refused changes nothing but the place of the FAULT.");
        leavesAll("a new object", Riddle::new, refusedWith(0));
        leavesAll("four clues", BoundaryTerms::busy, refusedWith(4));
        leavesAll("twelve clues", BoundaryTerms::crowded, refusedWith(12));
    }

    private static List<Refused> refusedWith(int clues) {
        List<Refused> all = new ArrayList<>();
        for (int sign : NO_SIGNS) {
            all.add(new Refused("say(" + sign + ")", x -> x.say(sign), OUTSIDE));
        }
        addClueCalls(all, clues);
        for (int clue : NEVER_CLUES) {
            addClueCalls(all, clue);
        }
        for (int what : new int[] {MIN, -1, 5, MAX}) {
            all.add(new Refused("told(last, " + what + ")", x -> x.told(clues - 1, what),
                clues == 0 ? UNKNOWN : OUTSIDE));
        }
        all.add(new Refused("met(" + (1 << clues) + ")", x -> x.met(1 << clues), OUTSIDE));
        for (int set : NEVER_SETS) {
            all.add(new Refused("met(" + set + ")", x -> x.met(set), OUTSIDE));
        }
        addItemCalls(all);
        addOtherCalls(all);
        return all;
    }

    private static void addClueCalls(List<Refused> all, int clue) {
        all.add(new Refused("drop(" + clue + ")", x -> x.drop(clue), UNKNOWN));
        all.add(new Refused("told(" + clue + ", 0)", x -> x.told(clue, 0), UNKNOWN));
        all.add(new Refused("told(" + clue + ", 5)", x -> x.told(clue, 5), UNKNOWN));
    }

    private static void addItemCalls(List<Refused> all) {
        for (int item : NO_ITEMS) {
            all.add(new Refused("answer(0, " + item + ")", x -> x.answer(0, item), OUTSIDE));
            all.add(new Refused("often(" + item + ", 1)", x -> x.often(item, 1), OUTSIDE));
            all.add(new Refused("together(" + item + ", 0)", x -> x.together(item, 0), OUTSIDE));
            all.add(new Refused("together(0, " + item + ")", x -> x.together(0, item), OUTSIDE));
            all.add(new Refused("left(" + item + ", 0)", x -> x.left(item, 0), OUTSIDE));
        }
    }

    private static void addOtherCalls(List<Refused> all) {
        for (int place : NO_PLACES) {
            all.add(new Refused("often(0, " + place + ")", x -> x.often(0, place), OUTSIDE));
        }
        for (int below : new int[] {MIN, -2, -1}) {
            all.add(new Refused("answer(" + below + ", 0)", x -> x.answer(below, 0), OUTSIDE));
            all.add(new Refused("left(0, " + below + ")", x -> x.left(0, below), OUTSIDE));
        }
        all.add(new Refused("step(MIN, 0)", x -> x.step(MIN, 0), OUTSIDE));
        all.add(new Refused("step(-2, 0)", x -> x.step(-2, 0), OUTSIDE));
        for (int what : new int[] {MIN, -1, 4, MAX}) {
            all.add(new Refused("step(-1, " + what + ")", x -> x.step(-1, what), OUTSIDE));
        }
        for (int k : NO_IMAGES) {
            all.add(new Refused("image(" + k + ")", x -> x.image(k), OUTSIDE));
            all.add(new Refused("restore(" + k + ")", x -> x.restore(k), OUTSIDE));
        }
        for (int what : NO_COUNTS) {
            all.add(new Refused("count(" + what + ")", x -> x.count(what), OUTSIDE));
        }
    }

    private void stateLeavesAll() {
        sentence("Terms", "What is refused changes nothing but the place of the FAULT.");
        leavesAll("a new object", Riddle::new, List.of(new Refused("restore(0)", x -> x.restore(0), STATE),
            new Refused("restore(1)", x -> x.restore(1), STATE)));
        leavesAll("four clues", BoundaryTerms::busy, List.of(new Refused("restore(1)", x -> x.restore(1), STATE)));
    }

    private void fullTextLeavesAll() {
        sentence("Terms", "What is refused changes nothing but the place of the FAULT.");
        for (String text : new String[] {"aaaaaaaaaa", "a1=b2|c3!!", "a1@1@1@1@1"}) {
            Supplier<Riddle> made = () -> Riddle.with("a1@1", "b1!c1").text(text);
            leavesAll("the text " + text, made, List.of(new Refused("say('1')", x -> x.say('1'), FULL),
                new Refused("say(126)", x -> x.say(126), FULL), new Refused("say(33)", x -> x.say(33), FULL)));
        }
    }

    private void noLeavesAll() {
        sentence("Terms", "What is refused changes nothing but the place of the FAULT.");
        for (String text : new String[] {"a1=a1", "b4!b4", "c1<c1", "c2+c2", "d4~d4", "a1=a1|b1", "a1=b1|a1",
                "a1=b1|b1", "d4=d4|d4"}) {
            List<Refused> clue = List.of(new Refused("clue() of " + text, Riddle::clue, NO));
            leavesAll("a new object", () -> new Riddle().text(text), clue);
            leavesAll("three clues", () -> Riddle.with("a1=b1", "c1@2", "d1<d2").text(text), clue);
            leavesAll("twelve clues", () -> idle().text(text), clue);
        }
    }

    private void fullRowLeavesAll() {
        sentence("Terms", "What is refused changes nothing but the place of the FAULT.");
        List<Refused> clue = List.of(new Refused("clue() as the 13th", Riddle::clue, FULL));
        leavesAll("twelve clues", BoundaryTerms::crowded, clue);
        leavesAll("twelve clues and c1=d1|d2", () -> idle().text("c1=d1|d2"), clue);
    }

    private void faultLeavesAllButItsPlace() {
        sentence("Terms", "What is refused changes nothing but the place of the FAULT.");
        String[] texts = {"", "e", "a", "a5", "a1|", "a1=0", "a1=b", "a1!b2|", "a1=b2|", "a1=b2|c", "a1=b2|c3!"};
        int[] places = {0, 0, 1, 1, 2, 3, 4, 5, 6, 7, 8};
        for (int i = 0; i < texts.length; i++) {
            faultLeavesTheRest(new Riddle(), new Riddle(), texts[i], places[i]);
            faultLeavesTheRest(busy(), busy(), texts[i], places[i]);
            faultLeavesTheRest(crowded(), crowded(), texts[i], places[i]);
        }
    }

    private void faultLeavesTheRest(Riddle x, Riddle twin, String text, int place) {
        x.wipe();
        twin.wipe();
        due("clue() of '" + text + "'", x.text(text).clue(), FAULT);
        due("count(2) behind it", x.count(2), place);
        same("clue() of '" + text + "' leaves all", x.laidOpen(), twin.text(text).laidOpen());
    }

    private void setsAreNumbers() {
        sentence("Terms", "bit k (of the value 1 shifted left by k) tells whether k is in it");
        for (int k = 0; k < 12; k++) {
            Riddle x = new Riddle();
            for (int clue = 0; clue < 12; clue++) {
                x.add(clue == k ? "d1@4" : "a1!a2");
            }
            due("core(), clue " + k + " alone being needed", x.core(), 1 << k);
            due("needless()", x.needless(), 4095 - (1 << k));
            due("met() of it alone", x.met(1 << k), ALL / 4);
            due("met() of all others", x.met(4095 - (1 << k)), ALL);
        }
    }
}
