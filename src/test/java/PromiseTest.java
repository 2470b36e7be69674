/** Every promise of the document by its number, with answers that were found by hand. */
public final class PromiseTest {
    private static final Checks CHECKS = new Checks("PromiseTest");
    private static final int UNKNOWN = -1, OUTSIDE = -2, STATE = -3, FULL = -4, NO = -5, NONE = -6, FAULT = -7;
    private static final int ALL = 331776;
    private static final int MIN = Integer.MIN_VALUE, MAX = Integer.MAX_VALUE;

    private static String promise = "";

    public static void main(String[] args) {
        newObject();
        say();
        wipe();
        fault();
        clue();
        clueRefused();
        drop();
        told();
        answers();
        answer();
        often();
        together();
        met();
        needless();
        core();
        trim();
        stepsOfRuleOne();
        stepsOfRuleTwo();
        stepsOfRuleZero();
        stepRefused();
        left();
        end();
        image();
        restore();
        count();
        changesAreSeen();
        CHECKS.close();
    }

    private static void due(String call, int got, int want) {
        CHECKS.due(promise + " " + call, got, want);
    }

    private static void write(GridRiddles x, String text) {
        for (int i = 0; i < text.length(); i++) {
            x.say(text.charAt(i));
        }
    }

    private static GridRiddles with(String... clues) {
        GridRiddles x = new GridRiddles();
        for (String clue : clues) {
            add(x, clue);
        }
        return x;
    }

    private static void add(GridRiddles x, String clue) {
        write(x, clue);
        int number = x.count(0);
        due("clue() of " + clue, x.clue(), number);
    }

    private static GridRiddles full() {
        return with("a1!a2", "a1!a3", "a1!a4", "a2!a3", "a2!a4", "a3!a4",
            "b1!b2", "b1!b3", "b1!b4", "b2!b3", "b2!b4", "b3!b4");
    }

    private static void newObject() {
        promise = "1:";
        GridRiddles x = new GridRiddles();
        due("count(0)", x.count(0), 0);
        due("count(1)", x.count(1), 0);
        due("count(2)", x.count(2), NONE);
        due("count(3)", x.count(3), 0);
        due("answers()", x.answers(), ALL);
        due("needless()", x.needless(), 0);
        due("core()", x.core(), 0);
        due("trim()", x.trim(), 0);
        due("step(-1, 0)", x.step(-1, 0), 0);
        due("end()", x.end(), 1);
        due("restore(0)", x.restore(0), STATE);
        GridRiddles other = with("a1@1");
        due("answers() of the first behind a clue of the second", x.answers(), ALL);
        due("answers() of the second", other.answers(), ALL / 4);
    }

    private static void say() {
        promise = "2:";
        GridRiddles x = new GridRiddles();
        due("say(33)", x.say(33), 1);
        due("say(126)", x.say(126), 2);
        for (int sign : new int[] {32, 127, 0, -1, 97 + 256, 97 + 65536, MIN, MAX}) {
            due("say(" + sign + ")", x.say(sign), OUTSIDE);
        }
        due("count(1)", x.count(1), 2);
        for (int n = 3; n <= 10; n++) {
            due("say('a'), sign " + n, x.say('a'), n);
        }
        due("say('a') in a full text", x.say('a'), FULL);
        due("say(32) in a full text", x.say(32), OUTSIDE);
        due("count(1) of a full text", x.count(1), 10);
        due("wipe() of a full text", x.wipe(), 10);
        due("say('a') in the wiped text", x.say('a'), 1);
    }

    private static void wipe() {
        promise = "3:";
        GridRiddles x = with("a1@1");
        due("wipe() of nothing", x.wipe(), 0);
        write(x, "b1x");
        due("clue()", x.clue(), FAULT);
        due("wipe()", x.wipe(), 3);
        due("count(1)", x.count(1), 0);
        due("fault()", x.fault(), 0);
        due("wipe() once more", x.wipe(), 0);
        due("count(0)", x.count(0), 1);
        due("count(2)", x.count(2), 2);
    }

    private static void faultOf(String text, int want) {
        GridRiddles x = new GridRiddles();
        write(x, text);
        due("fault() of " + text, x.fault(), want);
        due("count(2) behind fault() of " + text, x.count(2), NONE);
        due("count(1) behind fault() of " + text, x.count(1), text.length());
    }

    private static void fault() {
        promise = "4:";
        for (String text : new String[] {"b2=c4", "a1@3", "d4=a1|c2", "a1!b2", "a1<b2", "a1+b2", "a1~b2", "a1@1",
                "a1@4", "d4~d1", "a1=a1", "a1<a1", "a1=b2|b2", "a1=a1|a1"}) {
            faultOf(text, NONE);
        }
        for (String text : new String[] {"", "a", "a1", "a1=", "a1=b", "a1=b2|", "a1=b2|c", "a1@", "d4~", "a1=a1|"}) {
            faultOf(text, text.length());
        }
        String[] broken = {"e", "A", "1", "=", "a0", "a5", "aa", "a1|", "a1?", "a1>", "a1=1", "a1==", "a1=e", "a1=b0",
            "a1=b5", "a1=bb", "a1@0", "a1@5", "a1@b", "a1@11", "a1@1|", "a1=b2=", "a1=b2c", "a1!b2|", "a1<b2|",
            "a1+b2|", "a1~b2|", "a1=b2||", "a1=b2|1", "a1=b2|c0", "a1=b2|c5", "a1=b2|c3|", "a1=b2|c31"};
        for (String text : broken) {
            faultOf(text, text.length() - 1);
        }
        faultOf("e1=b2|c3", 0);
        faultOf("a1!b2|c3", 5);
        faultOf("a1=b2|c3|d", 8);
        faultOf("a1@1@1@1@1", 4);
        faultOf("!!!!!!!!!!", 0);
    }

    private static void clue() {
        promise = "5:";
        GridRiddles x = new GridRiddles();
        write(x, "b2=c4");
        due("clue()", x.clue(), 0);
        due("count(1)", x.count(1), 0);
        due("clue() of no text", x.clue(), FAULT);
        due("count(2)", x.count(2), 0);
        write(x, "b2=c4");
        due("clue() of the same text", x.clue(), 1);
        due("count(0)", x.count(0), 2);
        due("count(2) stays", x.count(2), 0);
    }

    private static void refusedClue(GridRiddles x, String text, int want) {
        int clues = x.count(0);
        int answers = x.answers();
        write(x, text);
        due("clue() of " + text, x.clue(), want);
        due("count(0) behind " + text, x.count(0), clues);
        due("answers() behind " + text, x.answers(), answers);
        due("wipe() behind " + text, x.wipe(), text.length());
    }

    private static void clueRefused() {
        promise = "5:";
        GridRiddles x = with("a1@1");
        refusedClue(x, "a1=", FAULT);
        due("count(2)", x.count(2), 3);
        for (String text : new String[] {"a1=a1", "b2!b2", "c3<c3", "d4+d4", "a2~a2",
                "a1=a1|b1", "a1=b1|a1", "a1=b1|b1", "a1=a1|a1"}) {
            refusedClue(x, text, NO);
        }
        due("count(2) stays behind NO", x.count(2), 3);
        refusedClue(x, "a1=a1!", FAULT);
        due("count(2) of another fault", x.count(2), 5);
        GridRiddles y = full();
        refusedClue(y, "c1@1", FULL);
        refusedClue(y, "c1=c1", NO);
        refusedClue(y, "c1=x", FAULT);
        due("count(2) of a full row", y.count(2), 3);
        due("drop(11)", y.drop(11), 11);
        write(y, "c1@1");
        due("clue() in the free number", y.clue(), 11);
    }

    private static void drop() {
        promise = "6:";
        GridRiddles x = with("a1@1", "b2@2", "c3@3");
        for (int clue : new int[] {-1, 3, 12, MIN, MAX}) {
            due("drop(" + clue + ")", x.drop(clue), UNKNOWN);
        }
        due("count(0)", x.count(0), 3);
        due("drop(1)", x.drop(1), 2);
        due("told(0, 1)", x.told(0, 1), 0);
        due("told(1, 1)", x.told(1, 1), 10);
        due("drop(2)", x.drop(2), UNKNOWN);
        due("drop(0)", x.drop(0), 1);
        due("told(0, 1) then", x.told(0, 1), 10);
        due("drop(0) of the last", x.drop(0), 0);
        due("drop(0) of none", x.drop(0), UNKNOWN);
        due("answers()", x.answers(), ALL);
    }

    private static void toldOf(String text, int... want) {
        GridRiddles x = with("a1!a2", text);
        for (int what = 0; what < 5; what++) {
            due("told(1, " + what + ") of " + text, x.told(1, what), want[what]);
        }
    }

    private static void told() {
        promise = "7:";
        toldOf("a1=b2", 0, 0, 5, NONE, NONE);
        toldOf("c3!d4", 1, 10, 15, NONE, NONE);
        toldOf("d1<a4", 2, 12, 3, NONE, NONE);
        toldOf("b1+b4", 3, 4, 7, NONE, NONE);
        toldOf("c1~a3", 4, 8, 2, NONE, NONE);
        toldOf("d2@4", 5, 13, NONE, NONE, 4);
        toldOf("d2@1", 5, 13, NONE, NONE, 1);
        toldOf("d4=a1|c2", 6, 15, 0, 9, NONE);
        GridRiddles x = with("a1@1");
        for (int what : new int[] {-1, 5, MIN, MAX}) {
            due("told(0, " + what + ")", x.told(0, what), OUTSIDE);
            due("told(1, " + what + ")", x.told(1, what), UNKNOWN);
            due("told(-1, " + what + ")", x.told(-1, what), UNKNOWN);
        }
        due("told(MIN, 0)", x.told(MIN, 0), UNKNOWN);
        due("told(MAX, 0)", x.told(MAX, 0), UNKNOWN);
    }

    private static void answersOf(int want, String... clues) {
        due("answers() of " + String.join(" ", clues), with(clues).answers(), want);
    }

    private static void answers() {
        promise = "8:";
        int part = ALL / 16;
        String[] pairs = {"a1?b1", "b2?a3", "c4?d1", "a4?d4", "d2?b2"};
        for (String pair : pairs) {
            answersOf(4 * part, pair.replace('?', '='));
            answersOf(12 * part, pair.replace('?', '!'));
            answersOf(6 * part, pair.replace('?', '<'));
            answersOf(3 * part, pair.replace('?', '+'));
            answersOf(6 * part, pair.replace('?', '~'));
        }
        answersOf(0, "c1=c2");
        answersOf(ALL, "c1!c2");
        answersOf(ALL / 2, "c1<c2");
        answersOf(ALL / 4, "c1+c2");
        answersOf(ALL / 2, "c1~c2");
        answersOf(ALL / 4, "d3@2");
        for (String three : new String[] {"a1=b1|c1", "b1=c1|d1", "c1=d1|a1", "d1=a1|b1", "d1=b1|c1", "a1=d1|c1"}) {
            answersOf(7 * part, three);
        }
        for (String three : new String[] {"c3=a2|b4", "d2=a4|b3", "d4=a3|c2", "d3=b2|c4", "a2=d3|b1", "b3=c4|a4",
                "c2=b3|a1", "a3=b4|c1", "b4=a2|d1"}) {
            eitherIsMet(three);
        }
        answersOf(ALL / 2, "a1=b1|b2");
        answersOf(ALL / 2, "b1=a1|a2");
        answersOf(ALL / 4, "a1=a2|b1");
        answersOf(ALL / 4, "b1=a2|b2");
        answersOf(0, "a1=a2|a3");
        answersOf(1, "a1@1", "a2@2", "a3@3", "b1@1", "b2@2", "b3@3", "c1@1", "c2@2", "c3@3", "d1@1", "d2@2", "d3@3");
        answersOf(0, "a1@1", "b1@1", "a1!b1");
    }

    /** With y at 1 and z at 2, x is at 1 or 2; with x at 1 and y at 2, z is at 1. */
    private static void eitherIsMet(String text) {
        String x = text.substring(0, 2);
        String y = text.substring(3, 5);
        String z = text.substring(6, 8);
        GridRiddles first = with(text, y + "@1", z + "@2");
        int item = first.told(0, 1);
        for (int place = 1; place <= 4; place++) {
            due("often(x, " + place + ") of " + text, first.often(item, place), place < 3 ? ALL / 64 : 0);
        }
        GridRiddles second = with(text, x + "@1", y + "@2");
        due("answers() of x@1, y@2, " + text, second.answers(), ALL / 64);
        due("often(z, 1) of " + text, second.often(second.told(0, 3), 1), ALL / 64);
    }

    private static void answerIs(GridRiddles x, int i, String places) {
        for (int item = 0; item < 16; item++) {
            due("answer(" + i + ", " + item + ")", x.answer(i, item), places.charAt(item) - '0');
        }
    }

    private static void answer() {
        promise = "9:";
        GridRiddles x = new GridRiddles();
        answerIs(x, 0, "1234123412341234");
        answerIs(x, 1, "1234123412341243");
        answerIs(x, 23, "1234123412344321");
        answerIs(x, 24, "1234123412431234");
        answerIs(x, 576, "1234124312341234");
        answerIs(x, 13824, "1243123412341234");
        answerIs(x, ALL - 1, "4321432143214321");
        due("answer(ALL, 0)", x.answer(ALL, 0), NONE);
        due("answer(MAX, 15)", x.answer(MAX, 15), NONE);
        due("answer(-1, 0)", x.answer(-1, 0), OUTSIDE);
        due("answer(MIN, 0)", x.answer(MIN, 0), OUTSIDE);
        due("answer(ALL, 16)", x.answer(ALL, 16), OUTSIDE);
        for (int item : new int[] {-1, 16, MIN, MAX}) {
            due("answer(0, " + item + ")", x.answer(0, item), OUTSIDE);
        }
        GridRiddles y = with("a1@2", "c4@1", "d1=c4");
        due("answers()", y.answers(), 6 * 24 * 6 * 6);
        answerIs(y, 0, "2134123423411234");
        answerIs(y, 6, "2134123424311234");
        answerIs(y, y.answers() - 1, "2431432143211432");
        due("answer(answers(), 0)", y.answer(y.answers(), 0), NONE);
        answerIs(y, 0, "2134123423411234");
        GridRiddles z = with("a1=a2");
        due("answer(0, 0) of none", z.answer(0, 0), NONE);
        due("answer(0, 16) of none", z.answer(0, 16), OUTSIDE);
        GridRiddles only = with("a1+b1", "b1+c1", "c1+d1",
            "a2@4", "a3@2", "b2@1", "b3@3", "c2@1", "c3@2", "d2@1", "d3@2");
        due("answers() of one", only.answers(), 1);
        answerIs(only, 0, "1423213431244123");
    }

    private static void often() {
        promise = "10:";
        GridRiddles x = with("a1<a2");
        int[] want = {3, 2, 1, 0};
        for (int place = 1; place <= 4; place++) {
            due("often(0, " + place + ")", x.often(0, place), want[place - 1] * ALL / 12);
            due("often(1, " + place + ")", x.often(1, place), want[4 - place] * ALL / 12);
            due("often(15, " + place + ")", x.often(15, place), ALL / 8);
        }
        for (int bad : new int[] {-1, 16, MIN, MAX}) {
            due("often(" + bad + ", 1)", x.often(bad, 1), OUTSIDE);
        }
        for (int bad : new int[] {-1, 0, 5, MIN, MAX}) {
            due("often(0, " + bad + ")", x.often(0, bad), OUTSIDE);
        }
        due("often(0, 1) of no answer", with("a1=a2").often(0, 1), 0);
        due("often(0, 1) in a full row", full().often(0, 1), ALL / 4);
    }

    private static void together() {
        promise = "11:";
        GridRiddles x = with("a1=b2", "c1!d1");
        int total = ALL / 4 / 4 * 3;
        due("answers()", x.answers(), total);
        due("together(0, 5)", x.together(0, 5), total);
        due("together(5, 0)", x.together(5, 0), total);
        due("together(0, 4)", x.together(0, 4), 0);
        due("together(0, 1)", x.together(0, 1), 0);
        due("together(7, 7)", x.together(7, 7), total);
        due("together(8, 12)", x.together(8, 12), 0);
        due("together(8, 13)", x.together(8, 13), total / 3);
        due("together(0, 8)", x.together(0, 8), total / 4);
        for (int bad : new int[] {-1, 16, MIN, MAX}) {
            due("together(" + bad + ", 0)", x.together(bad, 0), OUTSIDE);
            due("together(0, " + bad + ")", x.together(0, bad), OUTSIDE);
            due("together(" + bad + ", " + bad + ")", x.together(bad, bad), OUTSIDE);
        }
        due("together(0, 4) in a full row", full().together(0, 4), ALL / 4);
    }

    private static void met() {
        promise = "12:";
        GridRiddles x = with("a1@1", "a1@2", "b1<c1");
        due("met(0)", x.met(0), ALL);
        due("met(1)", x.met(1), ALL / 4);
        due("met(2)", x.met(2), ALL / 4);
        due("met(3)", x.met(3), 0);
        due("met(4)", x.met(4), ALL / 16 * 6);
        due("met(5)", x.met(5), ALL / 64 * 6);
        due("met(7)", x.met(7), 0);
        for (int bad : new int[] {8, 9, 15, -1, 1 << 12, 1 << 30, MIN, MAX}) {
            due("met(" + bad + ")", x.met(bad), OUTSIDE);
        }
        GridRiddles y = full();
        due("met(4095)", y.met(4095), ALL);
        due("met(4096)", y.met(4096), OUTSIDE);
        due("met(1) of none", new GridRiddles().met(1), OUTSIDE);
    }

    private static void needless() {
        promise = "13:";
        due("of two that tell the third", with("a1@1", "b1@1", "a1=b1").needless(), 7);
        due("of the same clue twice", with("a1@1", "a1@1").needless(), 3);
        due("of clues that all are needed", with("a1@1", "b1@1", "c1<d1").needless(), 0);
        due("of one that is always met", with("a1@1", "b1!b2").needless(), 2);
        due("of three that quarrel by twos", with("a1@1", "a2@1", "a3@1").needless(), 7);
        due("of one that is never met", with("b1@1", "a1=a2").needless(), 1);
        due("of twelve", full().needless(), 4095);
        GridRiddles whole = with("a1@1", "a2@2", "a3@3", "b1@1", "b2@2", "b3@3",
            "c1@1", "c2@2", "c3@3", "d1@1", "d2@2", "d3@3");
        due("of twelve that leave one answer", whole.needless(), 0);
        due("core() of twelve that leave one answer", whole.core(), 4095);
    }

    private static void core() {
        promise = "14:";
        due("of two that tell the third", with("a1@1", "b1@1", "a1=b1").core(), 3);
        due("of the third told first", with("a1=b1", "a1@1", "b1@1").core(), 3);
        due("of the same clue twice", with("a1@1", "a1@1").core(), 1);
        due("of three that quarrel by twos", with("a1@1", "a2@1", "a3@1").core(), 3);
        due("of one that is never met", with("b1@1", "a1=a2").core(), 2);
        due("of one quarrel ahead of another", with("a1@1", "a1@2", "b1@1", "b1@2").core(), 3);
        due("of one that is always met", with("b1!b2", "a1@1").core(), 2);
        due("of twelve", full().core(), 0);
        GridRiddles x = with("a1@1", "b1@1", "a1=b1");
        due("core()", x.core(), 3);
        due("count(0) stays", x.count(0), 3);
    }

    private static void trim() {
        promise = "15:";
        GridRiddles x = with("a1!a2", "a1@1", "b1!b2", "c1@2");
        int answers = x.answers();
        due("core()", x.core(), 10);
        due("trim()", x.trim(), 2);
        due("count(0)", x.count(0), 2);
        due("told(0, 1)", x.told(0, 1), 0);
        due("told(1, 1)", x.told(1, 1), 8);
        due("told(2, 1)", x.told(2, 1), UNKNOWN);
        due("answers()", x.answers(), answers);
        due("core() then", x.core(), 3);
        due("needless() then", x.needless(), 0);
        due("trim() once more", x.trim(), 2);
        due("trim() of twelve", full().trim(), 0);
    }

    private static void stepsAre(GridRiddles x, int[]... want) {
        due("step(-1, 0)", x.step(-1, 0), want.length);
        stepsBegin(x, want);
        for (int what = 0; what < 4; what++) {
            due("step(-1, " + what + ")", x.step(-1, what), want.length);
            due("step(" + want.length + ", " + what + ")", x.step(want.length, what), NONE);
        }
    }

    private static void stepsBegin(GridRiddles x, int[]... want) {
        for (int k = 0; k < want.length; k++) {
            for (int what = 0; what < 4; what++) {
                due("step(" + k + ", " + what + ")", x.step(k, what), want[k][what]);
            }
        }
    }

    private static int[] is(int rule, int clue, int item, int place) {
        return new int[] {rule, clue, item, place};
    }

    private static void stepsOfRuleOne() {
        promise = "16:";
        stepsAre(with("a2@2"), is(0, 0, 1, 1), is(0, 0, 1, 3), is(0, 0, 1, 4),
            is(1, NONE, 0, 2), is(1, NONE, 2, 2), is(1, NONE, 3, 2));
        stepsAre(with("d1@4", "c4@1"), is(0, 0, 12, 1), is(0, 0, 12, 2), is(0, 0, 12, 3),
            is(0, 1, 11, 2), is(0, 1, 11, 3), is(0, 1, 11, 4),
            is(1, NONE, 8, 1), is(1, NONE, 9, 1), is(1, NONE, 10, 1),
            is(1, NONE, 13, 4), is(1, NONE, 14, 4), is(1, NONE, 15, 4));
    }

    private static void stepsOfRuleTwo() {
        promise = "16:";
        stepsAre(with("a1<a2", "a1<a3", "a1<a4", "b1=a1"),
            is(0, 0, 0, 4), is(0, 0, 1, 1), is(0, 1, 2, 1), is(0, 2, 3, 1), is(0, 3, 4, 4),
            is(2, NONE, 0, 2), is(0, 3, 4, 2), is(2, NONE, 0, 3), is(0, 3, 4, 3),
            is(1, NONE, 5, 1), is(1, NONE, 6, 1), is(1, NONE, 7, 1));
        stepsAre(with("b1+b2", "b3<b1", "b4<b1"),
            is(0, 0, 4, 4), is(0, 0, 5, 1), is(0, 1, 6, 3), is(0, 1, 6, 4), is(0, 1, 4, 1), is(0, 0, 5, 2),
            is(0, 2, 7, 3), is(0, 2, 7, 4),
            is(2, NONE, 5, 3), is(0, 0, 4, 2));
    }

    private static void stepsOfRuleZero() {
        promise = "16:";
        stepsAre(with("a1=a2"));
        stepsAre(with("a1!b1"));
        stepsAre(with("a1=b1|c1"));
        stepsAre(with("c1<b1"), is(0, 0, 8, 4), is(0, 0, 4, 1));
        stepsAre(with("c1+b1"), is(0, 0, 8, 4), is(0, 0, 4, 1));
        stepsAre(with("c1~b1"));
        due("left(0, 64) ahead of place 4", with("b1@4", "a1<b1").left(0, 64), 14);
        due("left(4, 64) behind place 1", with("a1@1", "a1<b1").left(4, 64), 28);
        due("left(0, 64) right ahead of place 4", with("b1@4", "a1+b1").left(0, 64), 8);
        due("left(0, 64) beside place 2", with("b1@2", "a1~b1").left(0, 64), 10);
        stepsAre(with("a1@1", "b1~a1", "c1!b1"), is(0, 0, 0, 2), is(0, 0, 0, 3), is(0, 0, 0, 4),
            is(0, 1, 4, 1), is(0, 1, 4, 3), is(0, 1, 4, 4), is(0, 2, 8, 2),
            is(1, NONE, 1, 1), is(1, NONE, 2, 1), is(1, NONE, 3, 1),
            is(1, NONE, 5, 2), is(1, NONE, 6, 2), is(1, NONE, 7, 2));
        GridRiddles either = with("d1=a1|b1", "a1@1", "b1@2", "d1!b1");
        stepsBegin(either, is(0, 1, 0, 2), is(0, 1, 0, 3), is(0, 1, 0, 4), is(0, 2, 4, 1), is(0, 2, 4, 3),
            is(0, 0, 12, 3), is(0, 2, 4, 4), is(0, 0, 12, 4), is(0, 3, 12, 2), is(1, NONE, 1, 1));
        due("left(12, 64)", either.left(12, 64), 2);
        GridRiddles back = with("a1=b1|c1", "a1@3", "b1@1");
        due("left(8, 64): the third must be there", back.left(8, 64), 8);
        GridRiddles free = with("a1=b1|c1", "a1@3", "b1@3");
        due("left(8, 64): the third is free", free.left(8, 64), 30);
        GridRiddles second = with("a1=b1|c1", "a1@3", "c1@1");
        due("left(4, 64): the second must be there", second.left(4, 64), 8);
    }

    private static void stepRefused() {
        promise = "16:";
        GridRiddles x = with("a1@1");
        for (int k : new int[] {-2, -3, MIN}) {
            due("step(" + k + ", 0)", x.step(k, 0), OUTSIDE);
        }
        for (int what : new int[] {-1, 4, MIN, MAX}) {
            due("step(0, " + what + ")", x.step(0, what), OUTSIDE);
            due("step(-1, " + what + ")", x.step(-1, what), OUTSIDE);
            due("step(100, " + what + ")", x.step(100, what), OUTSIDE);
        }
        due("step(6, 0)", x.step(6, 0), NONE);
        due("step(64, 3)", x.step(64, 3), NONE);
        due("step(MAX, 0)", x.step(MAX, 0), NONE);
    }

    private static void left() {
        promise = "17:";
        GridRiddles x = with("a2@2");
        int[] want = {30, 28, 20, 4, 4};
        for (int k = 0; k < want.length; k++) {
            due("left(1, " + k + ")", x.left(1, k), want[k]);
        }
        due("left(0, 3)", x.left(0, 3), 30);
        due("left(0, 4)", x.left(0, 4), 26);
        due("left(3, 5)", x.left(3, 5), 30);
        due("left(3, 6)", x.left(3, 6), 26);
        due("left(3, 7)", x.left(3, 7), 26);
        due("left(3, MAX)", x.left(3, MAX), 26);
        due("left(15, MAX)", x.left(15, MAX), 30);
        for (int bad : new int[] {-1, 16, MIN, MAX}) {
            due("left(" + bad + ", 0)", x.left(bad, 0), OUTSIDE);
        }
        due("left(0, -1)", x.left(0, -1), OUTSIDE);
        due("left(0, MIN)", x.left(0, MIN), OUTSIDE);
    }

    private static void end() {
        promise = "18:";
        due("of no clue", new GridRiddles().end(), 1);
        GridRiddles whole = with("a1@1", "a2@2", "a3@3", "b1@1", "b2@2", "b3@3",
            "c1@1", "c2@2", "c3@3", "d1@1", "d2@2", "d3@3");
        due("of a riddle that is solved", whole.end(), 0);
        due("step(-1, 0)", whole.step(-1, 0), 48);
        due("left(15, 64)", whole.left(15, 64), 16);
        due("drop(11)", whole.drop(11), 11);
        due("of one that is nearly solved", whole.end(), 1);
        GridRiddles none = with("a1@1", "a1@2", "b1@1");
        due("of a quarrel", none.end(), 2);
        stepsAre(none, is(0, 0, 0, 2), is(0, 0, 0, 3), is(0, 0, 0, 4), is(0, 1, 0, 1));
        due("left(0, 64)", none.left(0, 64), 0);
        due("left(4, 64): no step behind the last", none.left(4, 64), 30);
        due("of no answer that no strike finds", with("a1=a2").end(), 1);
        due("of two items for one place", with("a1@1", "a2@1").end(), 2);
    }

    private static void image() {
        promise = "19:";
        GridRiddles x = with("a1@1");
        for (int bad : new int[] {-1, 2, 31, 32, MIN, MAX}) {
            due("image(" + bad + ")", x.image(bad), OUTSIDE);
        }
        due("count(3)", x.count(3), 0);
        due("image(1)", x.image(1), 1);
        due("count(3)", x.count(3), 2);
        add(x, "b1@1");
        due("image(0)", x.image(0), 1);
        due("count(3)", x.count(3), 3);
        add(x, "c1@1");
        due("image(1) in place of the first", x.image(1), 1);
        due("drop(0)", x.drop(0), 2);
        due("restore(1)", x.restore(1), 1);
        due("count(0)", x.count(0), 3);
        due("told(0, 1)", x.told(0, 1), 0);
        due("restore(0)", x.restore(0), 1);
        due("count(0)", x.count(0), 2);
    }

    private static void restore() {
        promise = "20:";
        GridRiddles x = with("a1@1", "b1@2");
        for (int bad : new int[] {-1, 2, 31, 32, MIN, MAX}) {
            due("restore(" + bad + ")", x.restore(bad), OUTSIDE);
        }
        due("restore(0)", x.restore(0), STATE);
        due("restore(1)", x.restore(1), STATE);
        due("image(0)", x.image(0), 1);
        due("restore(1)", x.restore(1), STATE);
        due("count(0)", x.count(0), 2);
        x.drop(0);
        write(x, "c1=");
        x.clue();
        due("restore(0)", x.restore(0), 1);
        due("count(0)", x.count(0), 2);
        due("count(1): the text stays", x.count(1), 3);
        due("count(2): the fault stays", x.count(2), 3);
        due("told(0, 4)", x.told(0, 4), 1);
        due("told(1, 4)", x.told(1, 4), 2);
        x.wipe();
        x.drop(1);
        add(x, "d1@3");
        due("restore(0): the image stays", x.restore(0), 1);
        due("told(1, 1)", x.told(1, 1), 4);
        due("count(3)", x.count(3), 1);
        GridRiddles none = new GridRiddles();
        due("image(1) of no clue", none.image(1), 1);
        add(none, "a1@1");
        due("restore(1) of no clue", none.restore(1), 1);
        due("count(0)", none.count(0), 0);
        due("answers()", none.answers(), ALL);
    }

    private static void count() {
        promise = "21:";
        GridRiddles x = with("a1=b1", "a1!b2", "a1!b3", "a1<c2", "a1+c3", "c1~c2", "a1@1", "d1@2", "d1=a2|a3");
        int[] want = {1, 2, 1, 1, 1, 2, 1};
        for (int kind = 0; kind < 7; kind++) {
            due("count(" + (10 + kind) + ")", x.count(10 + kind), want[kind]);
        }
        due("count(0)", x.count(0), 9);
        write(x, "a1@");
        due("count(1)", x.count(1), 3);
        due("count(2)", x.count(2), NONE);
        x.fault();
        due("count(2) behind fault()", x.count(2), NONE);
        x.clue();
        due("count(2) behind clue()", x.count(2), 3);
        x.wipe();
        add(x, "a2@2");
        due("count(2) stays", x.count(2), 3);
        x.clue();
        due("count(2) of another", x.count(2), 0);
        due("count(3)", x.count(3), 0);
        for (int bad : new int[] {-1, 4, 5, 9, 17, 18, MIN, MAX}) {
            due("count(" + bad + ")", x.count(bad), OUTSIDE);
        }
        due("drop(1)", x.drop(1), 9);
        due("count(11)", x.count(11), 1);
    }

    /** What was found before a change must not be answered behind it. */
    private static void changesAreSeen() {
        promise = "8 to 18:";
        GridRiddles x = with("a1@1", "a1!a2");
        x.image(0);
        seen(x, "first", ALL / 4, 1, 2, 1, 6);
        add(x, "a1@2");
        seen(x, "behind clue()", 0, NONE, 2, 5, 5);
        x.drop(0);
        seen(x, "behind drop()", ALL / 4, 2, 1, 2, 6);
        x.restore(0);
        seen(x, "behind restore()", ALL / 4, 1, 2, 1, 6);
        x.trim();
        seen(x, "behind trim()", ALL / 4, 1, 0, 1, 6);
    }

    private static void seen(GridRiddles x, String when, int answers, int place, int needless, int core, int steps) {
        due("answers() " + when, x.answers(), answers);
        due("answer(0, 0) " + when, x.answer(0, 0), place);
        due("needless() " + when, x.needless(), needless);
        due("core() " + when, x.core(), core);
        due("step(-1, 0) " + when, x.step(-1, 0), steps);
        due("often(0, 2) " + when, x.often(0, 2), place == 2 ? answers : 0);
        due("end() " + when, x.end(), answers == 0 ? 2 : 1);
    }
}
