/** Part 1 of "Terms", and promises 1 to 7: items, places, kinds, THE TEXT, its FAULT, the CLUES. */
final class BoundaryClues extends BoundaryPart {
    private static final int[] NO_WHATS = {MIN, MIN + 1, -2, -1, 5, 6, 10, 16, 32, MAX - 1, MAX};

    BoundaryClues(Boundary boundary) {
        super(boundary);
    }

    @Override
    void run() {
        newObject();
        itemsHaveNumbers();
        kindsAtTheirBounds();
        itemAtPlace();
        itemAtOneOfTwo();
        textUpToTenSigns();
        sayTellsTheLength();
        sayOutside();
        sayFull();
        wipe();
        firstSignThatCannotStand();
        beginningsOfTexts();
        withoutBlanks();
        sameItemsAreNoFault();
        faultAsItIs();
        faultNone();
        clueNumber();
        clueEmptiesText();
        clueFault();
        clueNo();
        clueFull();
        upToTwelveClues();
        thoseBehindAreOneLess();
        drop();
        dropUnknown();
        told();
        toldNoneOfPlace();
        toldUnknown();
        toldOutside();
    }

    private void newObject() {
        sentence("Promise 1", "No CLUE; THE TEXT is empty; no FAULT, no IMAGE.");
        Riddle x = new Riddle();
        for (int what : new int[] {0, 1, 3, 10, 11, 12, 13, 14, 15, 16}) {
            due("count(" + what + ")", x.count(what), 0);
        }
        due("count(2)", x.count(2), NONE);
        due("wipe()", x.wipe(), 0);
        due("drop(0)", x.drop(0), UNKNOWN);
        due("told(0, 0)", x.told(0, 0), UNKNOWN);
        due("answers()", x.answers(), ALL);
        due("needless()", x.needless(), 0);
        due("core()", x.core(), 0);
        due("step(-1, 0)", x.step(-1, 0), 0);
        due("restore(0)", x.restore(0), STATE);
        due("restore(1)", x.restore(1), STATE);
    }

    private void itemsHaveNumbers() {
        sentence("Part 1", "0 to 3 are a1 to a4, 4 to 7 b1 to b4, 8 to 11 c1 to c4, 12 to 15 d1 to d4");
        for (int item = 0; item < 16; item++) {
            int other = (item + 1) % 16;
            int third = (item + 15) % 16;
            Riddle x = Riddle.with(name(item) + "=" + name(other) + "|" + name(third));
            due("x of " + name(item), x.told(0, 1), item);
            due("y of " + name(other), x.told(0, 2), other);
            due("z of " + name(third), x.told(0, 3), third);
        }
    }

    /** A row for each PLACE of x, a sign for each PLACE of y: 1, if the clue is met. */
    private void kind(String words, char sign, String... rows) {
        sentence("Part 1", words);
        for (int p = 1; p <= 4; p++) {
            for (int q = 1; q <= 4; q++) {
                int met = rows[p - 1].charAt(q - 1) - '0';
                for (String[] pair : new String[][] {{"b3", "c2"}, {"d1", "a4"}, {"c4", "d4"}}) {
                    String clue = pair[0] + sign + pair[1];
                    Riddle x = Riddle.with(pair[0] + "@" + p, pair[1] + "@" + q, clue);
                    due("answers() of " + clue + ", at " + p + " and " + q, x.answers(), met * ALL / 16);
                }
                if (p != q) {
                    Riddle x = Riddle.with("b3@" + p, "b1@" + q, "b3" + sign + "b1");
                    due("answers() of b3" + sign + "b1, at " + p + " and " + q, x.answers(), met * ALL / 12);
                }
            }
        }
    }

    private void kindsAtTheirBounds() {
        kind("0 x=y: x and y are at one PLACE", '=', "1000", "0100", "0010", "0001");
        kind("1 x!y: they are not", '!', "0111", "1011", "1101", "1110");
        kind("2 x<y: the PLACE of x is less than that of y", '<', "0111", "0011", "0001", "0000");
        kind("3 x+y: the PLACE of y is one more than that of x", '+', "0100", "0010", "0001", "0000");
        kind("4 x~y: their PLACES are one apart", '~', "0100", "1010", "0101", "0010");
    }

    private void itemAtPlace() {
        sentence("Part 1", "5 x@p: x is at PLACE p (1 to 4)");
        for (int item = 0; item < 16; item++) {
            for (int p = 1; p <= 4; p++) {
                Riddle x = Riddle.with(name(item) + "@" + p);
                for (int q = 1; q <= 4; q++) {
                    due("often(" + item + ", " + q + ") at " + p, x.often(item, q), p == q ? ALL / 4 : 0);
                }
            }
            due("fault() of " + name(item) + "@0", new Riddle().text(name(item) + "@0").fault(), 3);
            due("fault() of " + name(item) + "@5", new Riddle().text(name(item) + "@5").fault(), 3);
        }
    }

    private void itemAtOneOfTwo() {
        sentence("Part 1", "6 x=y|z: x is at the PLACE of y, or at that of z.");
        for (int places = 0; places < 64; places++) {
            int p = 1 + places % 4;
            int q = 1 + places / 4 % 4;
            int r = 1 + places / 16;
            int met = p == q || p == r ? 1 : 0;
            for (String[] of : THREES) {
                String clue = of[0] + "=" + of[1] + "|" + of[2];
                Riddle x = Riddle.with(of[0] + "@" + p, of[1] + "@" + q, of[2] + "@" + r, clue);
                due("answers() of " + clue + " at " + p + q + r, x.answers(), met * ALL / 64);
            }
        }
    }

    private void textUpToTenSigns() {
        sentence("Part 1", "THE TEXT, up to 10 signs");
        Riddle x = new Riddle();
        for (int n = 0; n <= 10; n++) {
            due("count(1) with " + n, x.count(1), n);
            x.say('c');
        }
        due("count(1) behind the eleventh", x.count(1), 10);
    }

    private void sayTellsTheLength() {
        sentence("Promise 2", "how many THE TEXT has");
        Riddle x = new Riddle();
        for (int n = 1; n <= 10; n++) {
            due("say('a')", x.say('a'), n);
        }
        x.wipe();
        due("say('a') in a wiped text", x.say('a'), 1);
        x.text("1@1");
        x.clue();
        due("say('a') behind clue()", x.say('a'), 1);
    }

    private void sayOutside() {
        sentence("Promise 2", "OUTSIDE: it is not 33 to 126");
        for (int sign = -130; sign <= 400; sign++) {
            due("say(" + sign + ")", new Riddle().say(sign), sign >= 33 && sign <= 126 ? 1 : OUTSIDE);
        }
        for (int sign : new int[] {MIN, MIN + 33, 65536 + 33, 1 << 24, MAX - 126, MAX}) {
            Riddle x = new Riddle().text("a1");
            due("say(" + sign + ")", x.say(sign), OUTSIDE);
            due("count(1) behind it", x.count(1), 2);
        }
    }

    private void sayFull() {
        sentence("Promise 2", "FULL.");
        Riddle x = new Riddle().text("a1=b2|c3!");
        due("say('!') as the tenth", x.say('!'), 10);
        for (int sign = 33; sign <= 126; sign++) {
            due("say(" + sign + ") as the eleventh", x.say(sign), FULL);
        }
        due("fault()", x.fault(), 8);
        due("wipe()", x.wipe(), 10);
        due("say('a') in the wiped text", x.say('a'), 1);
    }

    private void wipe() {
        sentence("Promise 3", "THE TEXT is empty: how many signs it had.");
        for (int n = 0; n <= 10; n++) {
            Riddle x = new Riddle().text("a1=b2|c3!!".substring(0, n));
            due("wipe() of " + n, x.wipe(), n);
            due("count(1)", x.count(1), 0);
            due("fault()", x.fault(), 0);
            due("wipe() of nothing", x.wipe(), 0);
            due("clue() of a new text", x.text("d1@4").clue(), 0);
            due("told(0, 1)", x.told(0, 1), 12);
            due("wipe() behind clue()", x.wipe(), 0);
        }
    }

    /** Every sign behind a good beginning: those that may stand there, and whether the text is whole with them. */
    private void signsBehind(String beginning, String good, boolean whole) {
        int at = beginning.length();
        for (int sign = 33; sign <= 126; sign++) {
            Riddle x = new Riddle().text(beginning);
            x.say(sign);
            boolean stands = good.indexOf(sign) >= 0;
            String told = "fault() of " + beginning + (char) sign;
            due(told, x.fault(), !stands ? at : whole ? NONE : at + 1);
            if (!stands) {
                x.text("a1=b2");
                due(told + " and more signs", x.fault(), at);
            }
        }
    }

    private void firstSignThatCannotStand() {
        sentence("Part 1", "the place (0 is the first sign) of the first sign by which no such text can begin that has "
            + "all signs before it, too");
        signsBehind("", "abcd", false);
        for (String letter : new String[] {"a", "b", "c", "d"}) {
            signsBehind(letter, "1234", false);
            signsBehind("a1=" + letter, "1234", true);
            signsBehind("b2=c3|" + letter, "1234", true);
        }
        for (String item : new String[] {"a1", "a4", "b2", "d1", "d4"}) {
            signsBehind(item, "=!<+~@", false);
            signsBehind(item + "@", "1234", true);
            signsBehind(item + "@1", "", false);
            signsBehind(item + "@4", "", false);
            signsBehind(item + "=c2", "|", false);
            signsBehind(item + "=c2|", "abcd", false);
            signsBehind(item + "=c2|d3", "", false);
            for (String sign : new String[] {"!", "<", "+", "~"}) {
                signsBehind(item + sign, "abcd", false);
                signsBehind(item + sign + "c2", "", false);
            }
        }
    }

    private void beginningsOfTexts() {
        sentence("Part 1", "how many signs it has, if it is the beginning of such a text, but none");
        for (String text : new String[] {"a1=b2", "d4!c3", "b1<b2", "c4+d1", "d1~a4", "a1@1", "d4@4"}) {
            for (int n = 0; n < text.length(); n++) {
                due("fault() of " + text.substring(0, n), new Riddle().text(text.substring(0, n)).fault(), n);
            }
            due("fault() of " + text, new Riddle().text(text).fault(), NONE);
        }
        String longest = "d4=a1|c2";
        for (int n = 0; n <= 8; n++) {
            due("fault() of " + longest.substring(0, n), new Riddle().text(longest.substring(0, n)).fault(),
                n == 5 || n == 8 ? NONE : n);
        }
    }

    private void withoutBlanks() {
        sentence("Part 1", "an ITEM as its letter and its figure, without blanks");
        Riddle x = new Riddle();
        due("say('a')", x.say('a'), 1);
        due("say(' ')", x.say(' '), OUTSIDE);
        x.text("1 @ 1 ");
        due("fault() of a text that took no blank", x.fault(), NONE);
        due("count(1)", x.count(1), 4);
        for (String text : new String[] {"1a=b2", "A1=b2", "_1", "-1", "+a1"}) {
            due("fault() of " + text, new Riddle().text(text).fault(), 0);
        }
        due("fault() of a01", new Riddle().text("a01").fault(), 1);
        due("fault() of a11", new Riddle().text("a11").fault(), 2);
    }

    private void sameItemsAreNoFault() {
        sentence("Part 1", "(ITEMS that are the same are no FAULT.)");
        for (int item = 0; item < 16; item++) {
            String x = name(item);
            String y = name((item + 7) % 16);
            for (String text : new String[] {x + "=" + x, x + "!" + x, x + "<" + x, x + "+" + x, x + "~" + x,
                    x + "=" + x + "|" + x, x + "=" + x + "|" + y, x + "=" + y + "|" + x, x + "=" + y + "|" + y}) {
                due("fault() of " + text, new Riddle().text(text).fault(), NONE);
            }
            due("fault() of " + x + "=" + x + "|", new Riddle().text(x + "=" + x + "|").fault(), 6);
        }
    }

    private void faultAsItIs() {
        sentence("Promise 4", "The FAULT of THE TEXT as it is");
        Riddle x = new Riddle();
        int[] due = {0, 1, 2, 3, 4, NONE, 6, 7, NONE, 8, 8};
        String text = "a1=b2|c3!!";
        for (int n = 0; n <= 10; n++) {
            due("fault() with " + n + " signs", x.fault(), due[n]);
            due("fault() once more", x.fault(), due[n]);
            due("count(2), which fault() leaves", x.count(2), NONE);
            due("count(1)", x.count(1), n);
            x.say(n < 10 ? text.charAt(n) : 'a');
        }
        due("fault() behind a refused sign", x.fault(), 8);
    }

    private void faultNone() {
        sentence("Promise 4", "NONE: it has none.");
        for (String text : new String[] {"a1@1", "a1@4", "a1=a2", "d4~d3", "a1=d4|b2", "d4=d4|d4"}) {
            due("fault() of " + text, new Riddle().text(text).fault(), NONE);
            due("fault() of " + text + "~", new Riddle().text(text + "~").fault(), text.length());
        }
    }

    private void clueNumber() {
        sentence("Promise 5", "THE TEXT is a CLUE more: its number");
        Riddle x = new Riddle();
        for (int clue = 0; clue < 12; clue++) {
            due("clue() of the same text", x.text("a1@1").clue(), clue);
        }
        due("drop(0)", x.drop(0), 11);
        due("clue() behind drop()", x.text("a1@1").clue(), 11);
        due("trim()", x.trim(), 1);
        due("clue() behind trim()", x.text("a1@1").clue(), 1);
    }

    private void clueEmptiesText() {
        sentence("Promise 5", "THE TEXT is empty then");
        for (String text : new String[] {"a1@1", "a1=b1", "a1=b1|c1"}) {
            Riddle x = new Riddle().text(text);
            due("clue() of " + text, x.clue(), 0);
            due("count(1)", x.count(1), 0);
            due("fault()", x.fault(), 0);
            due("clue() of the empty text", x.clue(), FAULT);
            for (int n = 1; n <= 10; n++) {
                due("say('a'): all ten are free", x.say('a'), n);
            }
        }
    }

    private void clueFault() {
        sentence("Promise 5", "FAULT");
        for (String text : new String[] {"", "a", "a1", "a1=", "a1=b", "a1=b2|", "a1=b2|c", "a1=b2|c3~", "a1@", "a1@11",
                "a1@0", "a1@5", "a0@1", "a5@1", "e1@1", "`1@1", "a1!b2|c3", "a1>b2", "aaaaaaaaaa"}) {
            Riddle x = new Riddle().text(text);
            due("clue() of '" + text + "'", x.clue(), FAULT);
            due("count(0)", x.count(0), 0);
            due("wipe(): the text stayed", x.wipe(), text.length());
        }
    }

    private void clueNo() {
        sentence("Promise 5", "NO: two ITEMS of it are the same");
        for (int item = 0; item < 16; item++) {
            for (int other = 0; other < 16; other++) {
                for (char sign : new char[] {'=', '!', '<', '+', '~'}) {
                    String text = name(item) + sign + name(other);
                    due("clue() of " + text, new Riddle().text(text).clue(), item == other ? NO : 0);
                }
                String y = name(5);
                String text = name(item) + "=" + y + "|" + name(other);
                boolean same = item == other || item == 5 || other == 5;
                due("clue() of " + text, new Riddle().text(text).clue(), same ? NO : 0);
            }
        }
    }

    private void clueFull() {
        sentence("Promise 5", "FULL.");
        Riddle x = idle();
        for (String text : new String[] {"c1@1", "c1=d1", "c1=d1|d2", "a1!a2"}) {
            due("clue() of " + text + " as the 13th", x.text(text).clue(), FULL);
            due("wipe(): the text stayed", x.wipe(), text.length());
            due("count(0)", x.count(0), 12);
        }
        x.text("c1@1");
        due("clue()", x.clue(), FULL);
        due("drop(3)", x.drop(3), 11);
        due("clue() of the text that stayed", x.clue(), 11);
        due("told(11, 1)", x.told(11, 1), 8);
        due("clue() as the 13th again", x.text("c1@1").clue(), FULL);
    }

    private void upToTwelveClues() {
        sentence("Part 1", "There are up to 12 CLUES, numbered from 0 on");
        Riddle x = new Riddle();
        for (int clue = 0; clue < 12; clue++) {
            due("told(" + clue + ", 0) ahead of it", x.told(clue, 0), UNKNOWN);
            x.add(name(clue) + "@" + (1 + clue % 4));
            due("told(" + clue + ", 1)", x.told(clue, 1), clue);
            due("count(0)", x.count(0), clue + 1);
        }
        x.text("d1@1").clue();
        due("count(0) behind the 13th", x.count(0), 12);
        due("told(12, 0)", x.told(12, 0), UNKNOWN);
    }

    private void thoseBehindAreOneLess() {
        sentence("Part 1", "when one goes, those behind it are one less");
        for (int gone = 0; gone < 12; gone++) {
            Riddle x = new Riddle();
            for (int item = 0; item < 12; item++) {
                x.add(name(item) + "@" + (1 + item % 4));
            }
            due("drop(" + gone + ")", x.drop(gone), 11);
            for (int clue = 0; clue < 11; clue++) {
                due("told(" + clue + ", 1)", x.told(clue, 1), clue < gone ? clue : clue + 1);
            }
            due("told(11, 1)", x.told(11, 1), UNKNOWN);
        }
    }

    private void drop() {
        sentence("Promise 6", "A CLUE goes: how many there are.");
        Riddle first = solved();
        Riddle last = solved();
        for (int left = 11; left >= 0; left--) {
            due("drop(0) of " + (left + 1), first.drop(0), left);
            due("drop(" + left + ") of " + (left + 1), last.drop(left), left);
            due("count(0)", first.count(0), left);
        }
        due("answers() of none", first.answers(), ALL);
        due("answers() of none", last.answers(), ALL);
    }

    private void dropUnknown() {
        sentence("Promise 6", "UNKNOWN.");
        for (int clues = 0; clues <= 12; clues++) {
            Riddle x = new Riddle();
            for (int clue = 0; clue < clues; clue++) {
                x.add("a1@1");
            }
            for (int bad : new int[] {MIN, MIN + 1, -2, -1, clues, clues + 1, 12, 32, 256, MAX - 1, MAX}) {
                due("drop(" + bad + ") of " + clues, x.drop(bad), UNKNOWN);
            }
            due("count(0)", x.count(0), clues);
        }
    }

    private void told() {
        sentence("Promise 7", "its KIND (what = 0), x (1)");
        String[] texts = {"a1=b2", "a2!d4", "d4<a3", "c1+c2", "b4~a1", "d1@4", "d2=a1|c4"};
        int[] items = {0, 1, 15, 8, 7, 12, 13};
        for (int kind = 0; kind < 7; kind++) {
            Riddle x = Riddle.with(texts[kind]);
            due("told(0, 0) of " + texts[kind], x.told(0, 0), kind);
            due("told(0, 1) of " + texts[kind], x.told(0, 1), items[kind]);
        }
    }

    private void toldNoneOfPlace() {
        sentence("Promise 7", "y (2; NONE: KIND 5), z (3; NONE: but of KIND 6), p (4; NONE: but of KIND 5)");
        String[] texts = {"a1=b2", "a2!d4", "d4<a1", "c1+c2", "b4~a1", "d1@4", "d2=a1|c4"};
        int[] ys = {5, 15, 0, 9, 0, NONE, 0};
        for (int kind = 0; kind < 7; kind++) {
            Riddle x = Riddle.with(texts[kind]);
            due("told(0, 2) of " + texts[kind], x.told(0, 2), ys[kind]);
            due("told(0, 3) of " + texts[kind], x.told(0, 3), kind == 6 ? 11 : NONE);
            due("told(0, 4) of " + texts[kind], x.told(0, 4), kind == 5 ? 4 : NONE);
        }
        due("told(0, 3) of a z that is ITEM 0", Riddle.with("b1=c1|a1").told(0, 3), 0);
        for (int p = 1; p <= 4; p++) {
            due("told(0, 4) of a1@" + p, Riddle.with("a1@" + p).told(0, 4), p);
        }
    }

    private void toldUnknown() {
        sentence("Promise 7", "UNKNOWN");
        for (int clues = 0; clues <= 12; clues++) {
            Riddle x = new Riddle();
            for (int clue = 0; clue < clues; clue++) {
                x.add("b1@1");
                due("told(" + clue + ", 1), the last", x.told(clue, 1), 4);
            }
            for (int bad : new int[] {MIN, MIN + 1, -2, -1, clues, clues + 1, 12, 32, 256, MAX - 1, MAX}) {
                for (int what = 0; what <= 4; what += 2) {
                    due("told(" + bad + ", " + what + ") of " + clues, x.told(bad, what), UNKNOWN);
                }
            }
        }
        Riddle x = Riddle.with("a1@1", "a2@2");
        x.drop(0);
        due("told(1, 0), which has gone", x.told(1, 0), UNKNOWN);
    }

    private void toldOutside() {
        sentence("Promise 7", "OUTSIDE.");
        for (String text : new String[] {"a1=b2", "d1@4", "d2=a1|c4"}) {
            Riddle x = Riddle.with("a1@1", text);
            for (int what : NO_WHATS) {
                due("told(0, " + what + ")", x.told(0, what), OUTSIDE);
                due("told(1, " + what + ") of " + text, x.told(1, what), OUTSIDE);
            }
        }
    }
}
