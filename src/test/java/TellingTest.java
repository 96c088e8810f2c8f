/**
 * The boundary cases of promises 14 to 19: numbers below and above those that name something, what is told when there
 * is nothing, and what is told of the latest answer alone.
 */
public final class TellingTest extends Checks {
    private static final int[] FAR = {LEAST, LEAST + 1, -104, -101, -3, 61, 1000, MOST - 1, MOST};

    public static void main(String[] args) {
        objectOfWhichSlot();
        objectOfWhichItem();
        objectOfEachKind();
        objectOfNoSlots();
        objectOfNoAction();
        objectStaysWithLaterCalls();
        askedOfNothing();
        askedOfWhich();
        askedOfWhat();
        filledOfNothing();
        filledInOrder();
        filledOfTheLatestAlone();
        toldOfWhat();
        toldOfAnAction();
        toldOfEachError();
        toldCounts();
        toldLinesTried();
        traceOfWhichLine();
        traceOfWhat();
        traceOfTheLatestAlone();
        saidOfWhichRow();
        saidOfWhichWord();
        tellingChangesNothing();
        end();
    }

    // ---- promise 14 ----

    private static void objectOfWhichSlot() {
        promise = "object: of SLOT 0 or 1";
        GrammarLines g = oneLine(10, 10);
        due("an action", say(g, 50, 10007, 10008), 1);
        for (int far : FAR) {
            noSlot("slot " + far, g, far);
        }
        noSlot("slot -1", g, -1);
        noSlot("slot -2", g, -2);
        noSlot("slot 2", g, 2);
        slot("slot 0", g, 0, 10, 7);
        slot("slot 1", g, 1, 10, 8);
    }

    private static void objectOfWhichItem() {
        promise = "object: k = -2 its KIND, -1 how many, else the k-th; NONE: there is none such";
        GrammarLines g = oneLine(9);
        due("an action", say(g, 50, 90, 91, 92), 1);
        due("object(0, -2)", g.object(0, -2), 9);
        due("object(0, -1)", g.object(0, -1), 3);
        due("object(0, 0)", g.object(0, 0), 90);
        due("object(0, 2)", g.object(0, 2), 92);
        due("object(0, 3)", g.object(0, 3), NONE);
        for (int far : FAR) {
            due("object(0, " + far + ")", g.object(0, far), NONE);
            due("object(1, " + far + ")", g.object(1, far), NONE);
        }
    }

    private static void objectOfEachKind() {
        promise = "object: things, by their numbers; words of a TOPIC, in order; the number; the VALUE";
        for (int kind = 2; kind <= 8; kind++) {
            GrammarLines g = oneLine(kind);
            thingOf(g, 0, 21);
            thingOf(g, 12, 20);
            due("kind " + kind, say(g, 50, 20), 1);
            slot("kind " + kind, g, 0, kind, 1);
        }
        GrammarLines things = furnished(6);
        due("things", say(things, 50, 23, AND, 21, AND, 31), 1);
        slot("things", things, 0, 6, 1, 2, 4);
        GrammarLines topic = oneLine(9);
        due("words", say(topic, 50, 92, 90, 91, 90), 1);
        slot("words, in order", topic, 0, 9, 92, 90, 91, 90);
        GrammarLines number = oneLine(10, custom(9));
        number.custom(9, 10000, 9999);
        due("a number and a value", say(number, 50, 10000, 10000), 1);
        slot("the number", number, 0, 10, 0);
        slot("the value", number, 1, 11, 9999);
    }

    private static void objectOfNoSlots() {
        promise = "object: NONE: there is none such: a LINE without SLOTS, or with one";
        GrammarLines g = oneLine(w(70));
        lineOf(g, 0, 2, false, 10);
        lineOf(g, 0, 3, false, 10, 10);
        due("two", say(g, 50, 10001, 10002), 3);
        slot("two", g, 1, 10, 2);
        due("one behind two", say(g, 50, 10003), 2);
        slot("one behind two", g, 0, 10, 3);
        noSlot("one behind two", g, 1);
        due("none behind one", say(g, 50, 70), 1);
        noSlot("none", g, 0);
        noSlot("none", g, 1);
    }

    private static void objectOfNoAction() {
        promise = "object: What parse() or answer() had last, if that was an ACTION";
        GrammarLines g = furnished(2, w(70), 2);
        noSlot("a new object", g, 0);
        int[][] said = {{50, 21, 70, 99}, {50, 20, 70, 21}, {50, 21, 70}, {99}, {}, {OOPS, 21}};
        for (int[] words : said) {
            due("an action", say(g, 50, 21, 70, 22), 1);
            slot("an action", g, 0, 2, 2);
            slot("an action", g, 1, 2, 3);
            say(g, words);
            due("no action", g.told(0) == 0 ? 1 : 0, 0);
            noSlot("error " + g.told(0), g, 0);
            noSlot("error " + g.told(0), g, 1);
        }
    }

    private static void objectStaysWithLaterCalls() {
        promise = "object: What parse() or answer() had last, behind other calls";
        GrammarLines g = furnished(6);
        due("an action", say(g, 50, ALL), 1);
        g.flags(0, 0);
        g.thing(1);
        g.verb(51);
        g.like(0, 52);
        g.line(0, 2, true);
        g.token(0, 0, 70);
        g.token(0, 2, 0);
        g.custom(0, 20, 1);
        g.word(50);
        g.clear();
        refused("a refused answer", g, x -> x.answer(20), STATE);
        slot("behind other calls", g, 0, 6, 0, 1);
        noSlot("behind other calls", g, 1);
        due("told(2)", g.told(2), 0);
        traced("behind other calls", g, 0, 0, 0, NONE);
    }

    // ---- promise 15 ----

    private static void askedOfNothing() {
        promise = "asked: k = -1: 0 nothing; NONE: there is none such";
        GrammarLines g = furnished(2);
        int[][] said = {{50, 21}, {50, 99}, {99}, {}, {OOPS, 21}, {50, ALL}};
        for (int[] words : said) {
            say(g, words);
            asked("error " + g.told(0), g, 0);
            for (int far : FAR) {
                due("asked(" + far + ")", g.asked(far), NONE);
            }
            due("asked(-2)", g.asked(-2), NONE);
            due("asked(1)", g.asked(1), NONE);
        }
    }

    private static void askedOfWhich() {
        promise = "asked: Of 15: the k-th of the things, by their numbers";
        GrammarLines g = oneLine(3);
        for (int i = 0; i < 6; i++) {
            thingOf(g, i % 2 == 0 ? 1 : 2, 20);
        }
        error("which", g, say(g, 50, 20), 15, 1);
        asked("those that count", g, 15, 1, 3, 5);
        for (int far : FAR) {
            due("asked(" + far + ")", g.asked(far), NONE);
        }
        due("asked(-2)", g.asked(-2), NONE);
        due("asked(4)", g.asked(4), NONE);
        g.flags(1, 0);
        asked("what was asked of stays", g, 15, 1, 3, 5);
        g.flags(3, 1);
        due("an answer is tried anew", g.answer(20), 1);
        slot("an answer is tried anew", g, 0, 3, 5);
    }

    private static void askedOfWhat() {
        promise = "asked: Of 16: k = 0 the KIND of the SLOT that LACKS, 1 and more the words that were TOLD, in order";
        GrammarLines g = oneLine(w(72), w(70), w(71), 10);
        error("what", g, say(g, 50), 16, 1);
        asked("three words", g, 16, 10, 72, 70, 71);
        for (int far : FAR) {
            due("asked(" + far + ")", g.asked(far), NONE);
        }
        due("asked(-2)", g.asked(-2), NONE);
        due("asked(5)", g.asked(5), NONE);
        error("fewer words", g, say(g, 50, 72, 70), 16, 3);
        asked("fewer words", g, 16, 10, 71);
    }

    // ---- promise 16 ----

    private static void filledOfNothing() {
        promise = "filled: NONE";
        GrammarLines g = furnished(2);
        filled("a new object", g);
        due("an action", say(g, 50, 21), 1);
        for (int k = -2; k <= 2; k++) {
            due("filled(" + k + ")", g.filled(k), NONE);
        }
        for (int far : FAR) {
            due("filled(" + far + ")", g.filled(far), NONE);
        }
    }

    private static void filledInOrder() {
        promise = "filled: in order: a word as it is, a thing as 20000 and its number";
        GrammarLines g = oneLine(w(9999), 3, w(10), 2);
        thingOf(g, 2, 20);
        for (int i = 0; i < 38; i++) {
            g.thing(0);
        }
        thingOf(g, 1, 21);
        due("all", say(g, 50), 1);
        filled("all", g, 9999, 20000, 10, 20039);
        due("filled(-1)", g.filled(-1), NONE);
        due("filled(-2)", g.filled(-2), NONE);
        for (int far : FAR) {
            due("filled(" + far + ")", g.filled(far), NONE);
        }
    }

    private static void filledOfTheLatestAlone() {
        promise = "filled: in the LINE that fitted last, if the latest answer was an ACTION";
        GrammarLines g = oneLine(w(70), 2);
        thingOf(g, 1, 20);
        due("filled", say(g, 50), 1);
        filled("filled", g, 70, 20000);
        due("said", say(g, 50, 70, 20), 1);
        filled("said", g);
        due("filled again", say(g, 50, 70), 1);
        filled("filled again", g, 20000);
        error("an error", g, say(g, 50, 99), 5, 1);
        filled("an error", g);
        due("filled once more", say(g, 50), 1);
        g.thing(1);
        filled("it stays behind other calls", g, 70, 20000);
        error("asked", g, say(g, 50), 16, 1);
        filled("asked", g);
        due("answered", g.answer(20), 1);
        filled("what was told is said, not filled", g);
        GrammarLines two = oneLine(2, w(70));
        lineOf(two, 0, 2, false, 2, w(71), 2);
        thingOf(two, 1, 20);
        thingOf(two, 1, 21);
        due("of the line that fits alone", say(two, 50, 20), 2);
        filled("of the line that fits alone", two, 71, 20001);
    }

    // ---- promise 17 ----

    private static void toldOfWhat() {
        promise = "told: NONE: another what";
        GrammarLines g = furnished(2);
        due("an action", say(g, 50, 21), 1);
        for (int what : new int[] {LEAST, -101, -2, -1, 11, 12, 15, 16, 100, MOST}) {
            due("told(" + what + ")", g.told(what), NONE);
        }
    }

    private static void toldOfAnAction() {
        promise = "told: 0: an ACTION, or there was none";
        GrammarLines g = furnished(2);
        due("there was none", g.told(0), 0);
        due("no place", g.told(1), NONE);
        due("no line", g.told(2), NONE);
        due("to none", g.told(3), NONE);
        error("an error", g, say(g, 23, COMMA, 50, 99), 7, 1);
        due("of line 0", g.told(2), 0);
        due("to bob", g.told(3), 4);
        due("an action", say(g, 50, 21), 1);
        due("its error", g.told(0), 0);
        due("its place", g.told(1), NONE);
        due("its line", g.told(2), 0);
        due("to whom", g.told(3), NONE);
    }

    private static void toldOfEachError() {
        promise = "told: 2 the LINE that FITS, or of which the ERROR is (NONE)";
        GrammarLines g = furnished(2);
        lineOf(g, 0, 2, false, 3);
        error("1", g, g.parse(), 1, NONE);
        due("of no line", g.told(2), NONE);
        error("2", g, say(g, 99), 2, 0);
        due("of no line", g.told(2), NONE);
        error("3", g, say(g, AGAIN), 3, NONE);
        due("of no line", g.told(2), NONE);
        error("4", g, say(g, OOPS, 20), 4, NONE);
        due("of no line", g.told(2), NONE);
        error("15", g, say(g, 50, 20), 15, 1);
        due("of the first", g.told(2), 0);
        GrammarLines last = new GrammarLines();
        last.verb(50);
        for (int i = 0; i < 59; i++) {
            lineOf(last, 0, 1, false, w(70));
        }
        lineOf(last, 0, 2, false, 9);
        due("the last line of 60", say(last, 50, 90), 2);
        due("its number", last.told(2), 59);
        due("how many were tried", last.told(4), 60);
    }

    private static void toldCounts() {
        promise = "told: 5 words of INPUT, 6 of the COMMAND, 7 VERBS, 8 LINES, 9 things, 10 CUSTOM pairs";
        GrammarLines g = new GrammarLines();
        for (int i = 0; i < 61; i++) {
            counted("told(5)", g, 5, Math.min(i, 60));
            counted("told(7)", g, 7, Math.min(i, 20));
            counted("told(8)", g, 8, Math.min(i, 60));
            counted("told(9)", g, 9, Math.min(i, 40));
            counted("told(10)", g, 10, Math.min(i, 40));
            g.word(90);
            g.verb(100 + i);
            g.line(0, 1, false);
            g.thing(1);
            g.custom(0, 100 + i, 1);
        }
        counted("told(6) of none", g, 6, 0);
        error("no verb", g, g.parse(), 2, 0);
        counted("told(6) of all", g, 6, 60);
        counted("told(5) behind an error", g, 5, 0);
        g.word(90);
        g.clear();
        counted("told(5) behind clear()", g, 5, 0);
        counted("told(6) behind clear()", g, 6, 60);
    }

    private static void counted(String what, GrammarLines g, int of, int want) {
        due(what, g.told(of), want);
    }

    private static void toldLinesTried() {
        promise = "told: 4 how many LINES were TRIED";
        GrammarLines g = oneLine(w(70));
        for (int i = 1; i < 60; i++) {
            lineOf(g, 0, 1 + i, false, w(70 + i));
        }
        due("none yet", g.told(4), 0);
        for (int i = 0; i < 60; i += i < 58 ? 29 : 1) {
            due("line " + i + " fits", say(g, 50, 70 + i), 1 + i);
            due("up to line " + i, g.told(4), i + 1);
        }
        error("none fits", g, say(g, 50, 69), 5, 1);
        due("all", g.told(4), 60);
        error("no verb", g, say(g, 51), 2, 0);
        due("none", g.told(4), 0);
    }

    // ---- promise 18 ----

    private static void traceOfWhichLine() {
        promise = "trace: Of the i-th LINE that was TRIED last; NONE: there is none such";
        GrammarLines g = oneLine(w(70));
        lineOf(g, 0, 2, false, 9, w(71));
        traced("none yet", g, 0, NONE, NONE, NONE);
        error("two", g, say(g, 50, 90, 91), 5, 1);
        traced("the first", g, 0, 0, 5, 1);
        traced("the second", g, 1, 1, 5, 3);
        traced("a third", g, 2, NONE, NONE, NONE);
        traced("-1", g, -1, NONE, NONE, NONE);
        traced("-2", g, -2, NONE, NONE, NONE);
        for (int far : FAR) {
            traced("far", g, far, NONE, NONE, NONE);
        }
    }

    private static void traceOfWhat() {
        promise = "trace: what = 0 its number, 1 its ERROR (0: it FITS), 2 the PLACE of that (NONE)";
        GrammarLines g = oneLine(w(70));
        lineOf(g, 0, 2, false, 9);
        due("an action", say(g, 50, 90), 2);
        traced("an error", g, 0, 0, 5, 1);
        traced("it fits", g, 1, 1, 0, NONE);
        for (int what : new int[] {LEAST, -2, -1, 3, 4, MOST}) {
            due("trace(0, " + what + ")", g.trace(0, what), NONE);
            due("trace(1, " + what + ")", g.trace(1, what), NONE);
            due("trace(2, " + what + ")", g.trace(2, what), NONE);
        }
    }

    private static void traceOfTheLatestAlone() {
        promise = "trace: (by the latest parse() or answer())";
        GrammarLines g = furnished(2, 10);
        lineOf(g, 0, 2, false, 2);
        g.verb(51);
        lineOf(g, 1, 3, false);
        error("which", g, say(g, 50, 20), 15, 1);
        traced("which, the first", g, 0, 0, 15, 1);
        traced("which, the second", g, 1, 1, 15, 1);
        refused("a refused answer", g, x -> x.answer(8), OUTSIDE);
        due("answered", g.answer(30), 2);
        traced("answered, the first", g, 0, 0, 16, 3);
        traced("answered, the second", g, 1, 1, 0, NONE);
        due("another verb", say(g, 51), 3);
        traced("another verb", g, 0, 2, 0, NONE);
        traced("behind it", g, 1, NONE, NONE, NONE);
        error("no words", g, g.parse(), 1, NONE);
        traced("no words", g, 0, NONE, NONE, NONE);
    }

    // ---- promise 19 ----

    private static void saidOfWhichRow() {
        promise = "said: Word i of the COMMAND (which = 0), of INPUT (1); NONE";
        GrammarLines g = oneLine(9);
        due("said(0, 0) of a new object", g.said(0, 0), NONE);
        due("said(1, 0) of a new object", g.said(1, 0), NONE);
        due("an action", say(g, 50, 90, THEN, 91, 92), 1);
        command("the command", g, 50, 90);
        input("the input", g, 91, 92);
        for (int which : new int[] {LEAST, -2, -1, 2, 3, MOST}) {
            for (int i = -1; i <= 2; i++) {
                due("said(" + which + ", " + i + ")", g.said(which, i), NONE);
            }
        }
    }

    private static void saidOfWhichWord() {
        promise = "said: Word i; NONE";
        GrammarLines g = oneLine(9);
        due("60 words", say(g, longRow(60, 90, 50)), 1);
        for (int i = 0; i < 60; i++) {
            g.word(100 + i);
        }
        due("said(0, 0)", g.said(0, 0), 50);
        due("said(0, 59)", g.said(0, 59), 90);
        due("said(0, 60)", g.said(0, 60), NONE);
        due("said(1, 0)", g.said(1, 0), 100);
        due("said(1, 59)", g.said(1, 59), 159);
        due("said(1, 60)", g.said(1, 60), NONE);
        for (int which = 0; which <= 1; which++) {
            due("said(" + which + ", -1)", g.said(which, -1), NONE);
            due("said(" + which + ", -2)", g.said(which, -2), NONE);
            for (int far : FAR) {
                due("said(" + which + ", " + far + ")", g.said(which, far), NONE);
            }
        }
        g.clear();
        due("said(1, 0) behind clear()", g.said(1, 0), NONE);
        due("said(0, 0) behind clear()", g.said(0, 0), 50);
        error("no words", g, g.parse(), 1, NONE);
        due("said(0, 0) of no words", g.said(0, 0), NONE);
    }

    // ---- all of them ----

    private static void tellingChangesNothing() {
        promise = "object, asked, filled, told, trace, said change nothing";
        GrammarLines g = furnished(2);
        GrammarLines unasked = furnished(2);
        int[][] said = {{50, 20, THEN, 50, 21}, {}, {50, 99}, {OOPS, 21}, {23, COMMA, 50, 22}, {AGAIN}, {99, THEN, 50}};
        for (int[] words : said) {
            due("the same answer", say(g, words), say(unasked, words));
            everything(g);
            due("the same twice", everything(g).equals(everything(g)) ? 1 : 0, 1);
        }
        due("the same in the end", everything(g).equals(everything(unasked)) ? 1 : 0, 1);
    }
}
