import java.util.List;

/** Each promise of the document by itself: ordinary inputs, the edges it names, wrong inputs. */
public final class PromisesTest extends Checks {
    public static void main(String[] args) {
        constantsAndNewObject();
        verbs();
        likes();
        lines();
        tokens();
        things();
        names();
        flags();
        customs();
        inputWords();
        clearing();
        orders();
        chains();
        phrases();
        oneThing();
        severalThings();
        allButSome();
        severalButOther();
        topics();
        numbersAndCustoms();
        wordTokens();
        filling();
        asking();
        greatestError();
        again();
        oops();
        inputTakenAway();
        answers();
        answerRoom();
        objects();
        toldAndTraced();
        refusalsChangeNothing();
        end();
    }

    // ---- promises 1 to 11 ----

    private static void constantsAndNewObject() {
        promise = "1 new object";
        due("NONE", GrammarLines.NONE, NONE);
        due("UNKNOWN", GrammarLines.UNKNOWN, UNKNOWN);
        due("OUTSIDE", GrammarLines.OUTSIDE, OUTSIDE);
        due("STATE", GrammarLines.STATE, STATE);
        due("ROOM", GrammarLines.ROOM, ROOM);
        GrammarLines g = new GrammarLines();
        int[] toldAtFirst = {0, NONE, NONE, NONE, 0, 0, 0, 0, 0, 0, 0};
        for (int i = 0; i < toldAtFirst.length; i++) {
            due("told(" + i + ")", g.told(i), toldAtFirst[i]);
        }
        due("asked(-1)", g.asked(-1), 0);
        due("asked(0)", g.asked(0), NONE);
        due("filled(0)", g.filled(0), NONE);
        due("object(0, -2)", g.object(0, -2), NONE);
        due("object(1, -1)", g.object(1, -1), NONE);
        due("trace(0, 0)", g.trace(0, 0), NONE);
        due("said(0, 0)", g.said(0, 0), NONE);
        due("said(1, 0)", g.said(1, 0), NONE);
        due("answer(20)", g.answer(20), STATE);
        due("parse()", g.parse(), -1);
        due("clear()", g.clear(), 0);
        GrammarLines other = new GrammarLines();
        g.verb(50);
        due("verbs of another object", other.told(7), 0);
    }

    private static void verbs() {
        promise = "2 verb";
        GrammarLines g = new GrammarLines();
        for (int bad : new int[] {Integer.MIN_VALUE, -1, 0, 1, 7, 9, 10000, 19999, Integer.MAX_VALUE}) {
            due("verb(" + bad + ")", g.verb(bad), OUTSIDE);
        }
        due("verb(10)", g.verb(10), 0);
        due("verb(9999)", g.verb(9999), 1);
        due("verb(10) again", g.verb(10), OUTSIDE);
        g.like(0, 11);
        due("verb of a like word", g.verb(11), OUTSIDE);
        for (int i = 2; i < 20; i++) {
            due("verb " + i, g.verb(100 + i), i);
        }
        due("told(7)", g.told(7), 20);
        due("a 21st verb", g.verb(200), ROOM);
        due("a 21st verb with a word outside", g.verb(10), OUTSIDE);
        due("told(7) then", g.told(7), 20);
        GrammarLines h = new GrammarLines();
        h.verb(50);
        for (int i = 1; i < 60; i++) {
            due("word " + i, h.like(0, 100 + i), i + 1);
        }
        due("a verb behind 60 words", h.verb(51), ROOM);
        due("told(7) of one verb", h.told(7), 1);
    }

    private static void likes() {
        promise = "3 like";
        GrammarLines g = new GrammarLines();
        due("like(0, 50) without a verb", g.like(0, 50), UNKNOWN);
        g.verb(50);
        g.verb(60);
        due("like(-1, 5)", g.like(-1, 5), UNKNOWN);
        due("like(2, 51)", g.like(2, 51), UNKNOWN);
        due("like(0, 9)", g.like(0, 9), OUTSIDE);
        due("like(0, 10000)", g.like(0, 10000), OUTSIDE);
        due("like(0, 50)", g.like(0, 50), OUTSIDE);
        due("like(0, 60)", g.like(0, 60), OUTSIDE);
        due("like(0, 10)", g.like(0, 10), 2);
        due("like(1, 9999)", g.like(1, 9999), 2);
        due("like(0, 51)", g.like(0, 51), 3);
        for (int i = 5; i < 60; i++) {
            due("like " + i, g.like(1, 100 + i), i - 2);
        }
        due("a 61st word", g.like(0, 52), ROOM);
        due("a 61st word that is there", g.like(0, 51), OUTSIDE);
        lineOf(g, 0, 7, false);
        due("a like word as a verb", say(g, 51), 7);
    }

    private static void lines() {
        promise = "4 line";
        GrammarLines g = new GrammarLines();
        due("line(0, 1, false) without a verb", g.line(0, 1, false), UNKNOWN);
        g.verb(50);
        g.verb(51);
        due("line(-1, 1, false)", g.line(-1, 1, false), UNKNOWN);
        due("line(2, 0, false)", g.line(2, 0, false), UNKNOWN);
        due("line(0, 0, false)", g.line(0, 0, false), OUTSIDE);
        due("line(0, -1, true)", g.line(0, -1, true), OUTSIDE);
        due("line(0, 10000, true)", g.line(0, 10000, true), OUTSIDE);
        due("line(0, 1, false)", g.line(0, 1, false), 0);
        due("line(1, 9999, true)", g.line(1, 9999, true), 1);
        due("the first verb", say(g, 50), 1);
        due("the second verb", say(g, 51), 9999);
        for (int i = 2; i < 60; i++) {
            due("line " + i, g.line(i % 2, 5, false), i);
        }
        due("told(8)", g.told(8), 60);
        due("a 61st line", g.line(0, 1, false), ROOM);
        due("a 61st line outside", g.line(0, 0, false), OUTSIDE);
        due("told(8) then", g.told(8), 60);
    }

    private static void tokens() {
        promise = "5 token";
        GrammarLines g = new GrammarLines();
        due("token(0, 2, 0) without a line", g.token(0, 2, 0), UNKNOWN);
        g.verb(50);
        g.line(0, 1, false);
        due("token(-1, 2, 0)", g.token(-1, 2, 0), UNKNOWN);
        due("token(1, 99, 0)", g.token(1, 99, 0), UNKNOWN);
        due("token(0, -1, 10)", g.token(0, -1, 10), OUTSIDE);
        due("token(0, 12, 10)", g.token(0, 12, 10), OUTSIDE);
        due("token(0, 0, 9)", g.token(0, 0, 9), OUTSIDE);
        due("token(0, 0, 10000)", g.token(0, 0, 10000), OUTSIDE);
        due("token(0, 1, 9)", g.token(0, 1, 9), OUTSIDE);
        due("token(0, 11, -1)", g.token(0, 11, -1), OUTSIDE);
        due("token(0, 11, 10)", g.token(0, 11, 10), OUTSIDE);
        due("token(0, 1, 10) at first", g.token(0, 1, 10), STATE);
        due("token(0, 0, 10)", g.token(0, 0, 10), 1);
        due("token(0, 1, 9999)", g.token(0, 1, 9999), 2);
        due("token(0, 1, 12)", g.token(0, 1, 12), 3);
        due("token(0, 2, any)", g.token(0, 2, Integer.MIN_VALUE), 4);
        due("1 behind a slot", g.token(0, 1, 12), STATE);
        due("token(0, 9, any)", g.token(0, 9, -7), 5);
        due("1 behind a topic", g.token(0, 1, 12), STATE);
        due("a slot behind a topic", g.token(0, 10, 0), STATE);
        due("0 behind a topic", g.token(0, 0, 70), 6);
        due("1 behind that", g.token(0, 1, 71), 7);
        due("a third slot", g.token(0, 2, 0), STATE);
        due("an eighth", g.token(0, 0, 72), 8);
        due("a ninth", g.token(0, 0, 73), ROOM);
        due("a ninth of 1", g.token(0, 1, 73), ROOM);
        due("a ninth, a third slot", g.token(0, 2, 0), STATE);
        due("a ninth, outside", g.token(0, 12, 0), OUTSIDE);
        for (int kind = 2; kind <= 11; kind++) {
            int line = g.line(0, 1, false);
            due("first slot of kind " + kind, g.token(line, kind, 9), 1);
            due("a word behind kind " + kind, g.token(line, 0, 70), 2);
            due("second slot of kind " + kind, g.token(line, kind, 0), 3);
            due("a word behind it", g.token(line, 0, 70), 4);
            due("third slot of kind " + kind, g.token(line, kind, 0), STATE);
        }
        int line = g.line(0, 1, false);
        due("topic", g.token(line, 9, 0), 1);
        due("topic behind a topic", g.token(line, 9, 0), STATE);
        due("noun behind a topic", g.token(line, 2, 0), STATE);
    }

    private static void things() {
        promise = "6 thing";
        GrammarLines g = new GrammarLines();
        due("thing(-1)", g.thing(-1), OUTSIDE);
        due("thing(16)", g.thing(16), OUTSIDE);
        for (int i = 0; i < 40; i++) {
            due("thing " + i, g.thing(i % 16), i);
        }
        due("told(9)", g.told(9), 40);
        due("a 41st", g.thing(0), ROOM);
        due("a 41st outside", g.thing(16), OUTSIDE);
        due("told(9) then", g.told(9), 40);
        // the last of all things, by its own bit
        g.verb(50);
        lineOf(g, 0, 1, false, 2);
        g.flags(39, 1);
        g.name(39, 20);
        g.flags(31, 1);
        g.name(31, 21);
        g.flags(32, 1);
        g.name(32, 21);
        due("say the 39th", say(g, 50, 20), 1);
        slot("the 39th", g, 0, 2, 39);
        say(g, 50, 21);
        asked("the 31st and 32nd", g, 15, 31, 32);
    }

    private static void names() {
        promise = "7 name";
        GrammarLines g = new GrammarLines();
        due("name(0, 20) without a thing", g.name(0, 20), UNKNOWN);
        g.thing(1);
        g.thing(1);
        due("name(-1, 20)", g.name(-1, 20), UNKNOWN);
        due("name(2, 5)", g.name(2, 5), UNKNOWN);
        for (int bad : new int[] {-5, 0, 4, 8, 9, 10000, 10001}) {
            due("name(0, " + bad + ")", g.name(0, bad), OUTSIDE);
        }
        due("name(0, 10)", g.name(0, 10), 1);
        due("name(0, 10) again", g.name(0, 10), 1);
        due("name(0, 9999)", g.name(0, 9999), 2);
        due("name(1, 10)", g.name(1, 10), 1);
        due("name(0, 12)", g.name(0, 12), 3);
        due("name(0, 13)", g.name(0, 13), 4);
        due("a fifth", g.name(0, 14), ROOM);
        due("one of four again", g.name(0, 13), 4);
        due("a fifth outside", g.name(0, 9), OUTSIDE);
        g.name(1, 11);
        g.verb(50);
        lineOf(g, 0, 1, false, 2);
        due("a name of the next thing alone", say(g, 50, 11), 1);
        slot("a name of the next thing alone", g, 0, 2, 1);
        due("the first name of the next thing", g.name(0, 11), ROOM);
        GrammarLines full = oneLine(2);
        thingOf(full, 1, 20, 21, 22, 23);
        thingOf(full, 1, 24);
        due("the thing behind a full one", say(full, 50, 24), 1);
        slot("the thing behind a full one", full, 0, 2, 1);
        due("a fifth that the next has", full.name(0, 24), ROOM);
    }

    private static void flags() {
        promise = "8 flags";
        GrammarLines g = oneLine(2);
        due("flags(0, 1) without a thing", g.flags(0, 1), UNKNOWN);
        thingOf(g, 5, 20);
        due("flags(-1, 1)", g.flags(-1, 1), UNKNOWN);
        due("flags(1, 99)", g.flags(1, 99), UNKNOWN);
        due("flags(0, -1)", g.flags(0, -1), OUTSIDE);
        due("flags(0, 16)", g.flags(0, 16), OUTSIDE);
        due("flags(0, 15)", g.flags(0, 15), 5);
        due("flags(0, 8)", g.flags(0, 8), 15);
        error("out of scope", g, say(g, 50, 20), 7, 1);
        for (int in : new int[] {1, 2, 4}) {
            g.flags(0, in);
            due("in scope by " + in, say(g, 50, 20), 1);
        }
        due("flags(0, 0)", g.flags(0, 0), 4);
        error("out of scope again", g, say(g, 50, 20), 7, 1);
    }

    private static void customs() {
        promise = "9 custom";
        GrammarLines g = new GrammarLines();
        due("custom(-1, 20, 1)", g.custom(-1, 20, 1), OUTSIDE);
        due("custom(10, 20, 1)", g.custom(10, 20, 1), OUTSIDE);
        due("custom(0, 9, 1)", g.custom(0, 9, 1), OUTSIDE);
        due("custom(0, 7, 1)", g.custom(0, 7, 1), OUTSIDE);
        due("custom(0, 20000, 1)", g.custom(0, 20000, 1), OUTSIDE);
        due("custom(0, 20, -1)", g.custom(0, 20, -1), OUTSIDE);
        due("custom(0, 20, 10000)", g.custom(0, 20, 10000), OUTSIDE);
        due("custom(0, 10, 0)", g.custom(0, 10, 0), 1);
        due("custom(9, 19999, 9999)", g.custom(9, 19999, 9999), 2);
        due("custom(0, 10, 5)", g.custom(0, 10, 5), 2);
        due("custom(1, 10, 6)", g.custom(1, 10, 6), 3);
        for (int i = 3; i < 40; i++) {
            due("pair " + i, g.custom(2, 100 + i, 0), i + 1);
        }
        due("told(10)", g.told(10), 40);
        due("a 41st", g.custom(3, 100, 0), ROOM);
        due("a 41st outside", g.custom(3, 100, -1), OUTSIDE);
        due("in place of one", g.custom(1, 10, 7), 40);
        g.verb(50);
        lineOf(g, 0, 1, false, custom(1));
        due("say a custom word", say(g, 50, 10), 1);
        slot("the value in place", g, 0, 11, 7);
    }

    private static void inputWords() {
        promise = "10 word";
        GrammarLines g = new GrammarLines();
        for (int bad : new int[] {Integer.MIN_VALUE, -1, 0, 8, 9, 20000, Integer.MAX_VALUE}) {
            due("word(" + bad + ")", g.word(bad), OUTSIDE);
        }
        int[] good = {1, 2, 3, 4, 5, 6, 7, 10, 9999, 10000, 19999};
        for (int i = 0; i < good.length; i++) {
            due("word(" + good[i] + ")", g.word(good[i]), i + 1);
            due("said(1, " + i + ")", g.said(1, i), good[i]);
        }
        for (int i = good.length; i < 60; i++) {
            due("word " + i, g.word(20), i + 1);
        }
        due("a 61st", g.word(20), ROOM);
        due("a 61st outside", g.word(8), OUTSIDE);
        due("told(5)", g.told(5), 60);
        due("said(1, 59)", g.said(1, 59), 20);
        due("said(1, 60)", g.said(1, 60), NONE);
        due("said(1, -1)", g.said(1, -1), NONE);
        due("said(2, 0)", g.said(2, 0), NONE);
        due("said(-1, 0)", g.said(-1, 0), NONE);
    }

    private static void clearing() {
        promise = "11 clear";
        GrammarLines g = furnished(2);
        due("clear() of none", g.clear(), 0);
        g.word(50);
        g.word(20);
        due("clear() of two", g.clear(), 2);
        due("told(5)", g.told(5), 0);
        due("said(1, 0)", g.said(1, 0), NONE);
        say(g, 50, 20, THEN, 50, 21);
        due("clear() of what stays", g.clear(), 2);
        asked("clear() does not end it", g, 15, 0, 1);
        due("answer(31)", g.answer(31), 1);
        command("the answered one", g, 50, 20, 31);
    }

    // ---- promise 12: parse ----

    private static void orders() {
        promise = "12 orders";
        GrammarLines g = furnished(2);
        g.name(4, 25);
        due("bob, 50 21", say(g, 23, COMMA, 50, 21), 1);
        due("told(3)", g.told(3), 4);
        command("an order", g, 50, 21);
        due("to none", say(g, 50, 21), 1);
        due("told(3) of none", g.told(3), NONE);
        due("two words of bob", say(g, 23, 25, COMMA, 50, 21), 1);
        due("told(3) of two words", g.told(3), 4);
        error("no word behind the comma", g, say(g, 23, COMMA), 2, 0);
        command("no word behind the comma", g, 23, COMMA);
        due("told(3) then", g.told(3), NONE);
        error("AND is no comma", g, say(g, 23, AND, 20), 2, 0);
        error("the thing is no creature", g, say(g, 21, COMMA, 50, 21), 2, 0);
        command("the thing is no creature", g, 21);
        thingOf(g, 9, 23);
        error("two creatures", g, say(g, 23, COMMA, 50, 21), 2, 0);
        due("told(3) of two creatures", g.told(3), NONE);
        due("one of the two", say(g, 23, 25, COMMA, 50, 21), 1);
        due("told(3) of one of the two", g.told(3), 4);
        g.flags(4, 8);
        due("out of scope: the other is meant", say(g, 23, COMMA, 50, 21), 1);
        due("told(3) of the other", g.told(3), 6);
        g.flags(6, 8);
        error("both out of scope", g, say(g, 23, COMMA, 50, 21), 2, 0);
        g.flags(6, 9);
        error("an order without words", g, say(g, 23, COMMA, THEN, 50, 21), 1, NONE);
        due("told(3) of no words", g.told(3), 6);
        due("an order in a chain", say(g, 50, 21, THEN, 23, COMMA, 50, 22), 1);
        due("its first", g.told(3), NONE);
        due("its second", g.parse(), 1);
        due("its second, told(3)", g.told(3), 6);
        due("order of two commands", say(g, 23, COMMA, 50, 21, AND, 50, 22), 1);
        due("the first goes", g.told(3), 6);
        due("the second", g.parse(), 1);
        due("the second goes to none", g.told(3), NONE);
        say(g, 23, COMMA, 50, 20);
        asked("an order is asked of", g, 15, 0, 1);
        due("answer(30)", g.answer(30), 1);
        due("answer goes to the same", g.told(3), 6);
        thingOf(g, 1, 23);
        error("a creature and another thing", g, say(g, 23, COMMA, 50, 21), 2, 0);
        due("told(3) of creature and thing", g.told(3), NONE);
    }

    private static void chains() {
        promise = "12 chains";
        GrammarLines g = furnished(6);
        g.verb(51);
        lineOf(g, 1, 2, false);
        g.verb(52);
        due("50 21 THEN 51", say(g, 50, 21, THEN, 51), 1);
        command("up to THEN", g, 50, 21);
        due("told(5)", g.told(5), 1);
        due("the rest", g.parse(), 2);
        error("behind the end", g, g.parse(), 1, NONE);
        command("no words", g);
        due("AND and a verb", say(g, 50, 21, AND, 51), 1);
        due("the rest of AND", g.parse(), 2);
        due("COMMA and a verb", say(g, 50, 21, COMMA, 51), 1);
        due("the rest of COMMA", g.parse(), 2);
        due("AND and a name", say(g, 50, 21, AND, 22), 1);
        command("AND and a name", g, 50, 21, AND, 22);
        slot("AND and a name", g, 0, 6, 2, 3);
        due("a verb without lines ends it too", say(g, 50, 21, AND, 52), 1);
        due("told(5) there", g.told(5), 1);
        error("a verb without lines", g, g.parse(), 2, 0);
        error("THEN at first", g, say(g, THEN, 51), 1, NONE);
        due("all is taken away", g.told(5), 0);
        error("AND 51 at first", g, say(g, AND, 51), 1, NONE);
        error("AND 21 at first", g, say(g, AND, 21), 2, 0);
        error("AND at the end", g, say(g, 50, 21, AND), 7, 3);
        due("THEN at the end", say(g, 50, 21, THEN), 1);
        due("told(5) behind THEN", g.told(5), 0);
        due("THEN ahead of AND", say(g, 51, THEN, 50, 21, AND, 51), 2);
        due("its second", g.parse(), 1);
        due("its third", g.parse(), 2);
        error("a verb's word without a join is no end", g, say(g, 51, 51), 6, 1);
        command("a verb's word without a join", g, 51, 51);
    }

    private static void phrases() {
        promise = "12 phrases";
        GrammarLines g = furnished(2, w(30));
        due("as many words as can be", say(g, 50, 20, 31, 30), 1);
        slot("20 31", g, 0, 2, 1);
        error("30 belongs to the phrase", g, say(g, 50, 20, 30), 5, 3);
        error("no thing has 30 and 31", g, say(g, 50, 30, 31), 5, 2);
        due("a name twice", say(g, 50, 20, 20, 31, 20, 30), 1);
        slot("a name twice", g, 0, 2, 1);
        error("the far box", g, say(g, 50, 24, 30), 7, 1);
        g.name(0, 24);
        due("the far box does not count", say(g, 50, 24, 30, 30), -5);
        thingOf(g, 0, 20, 30, 32);
        error("a far thing with more names", g, say(g, 50, 30, 32), 5, 2);
        error("a word of none", g, say(g, 50, 99), 7, 1);
        error("a number is no name", g, say(g, 50, 10020), 7, 1);
        error("BUT is no name", g, say(g, 50, BUT), 7, 1);
    }

    private static void oneThing() {
        promise = "12 kinds 2 to 5";
        GrammarLines noun = furnished(2);
        error("ALL", noun, say(noun, 50, ALL), 13, 1);
        error("no phrase", noun, say(noun, 50, 99), 7, 1);
        error("two lamps", noun, say(noun, 50, 20), 15, 1);
        error("two lamps ahead of AND", noun, say(noun, 50, 20, AND, 21), 15, 1);
        error("AND behind", noun, say(noun, 50, 20, 30, AND, 21), 13, 3);
        error("COMMA behind", noun, say(noun, 50, 21, COMMA, 22), 13, 2);
        error("words left", noun, say(noun, 50, 21, 99), 6, 2);
        due("a creature", say(noun, 50, 23), 1);
        slot("a creature", noun, 0, 2, 4);
        GrammarLines held = furnished(3);
        error("not held", held, say(held, 50, 20, 30), 11, 1);
        error("none of two held", held, say(held, 50, 20), 11, 1);
        due("held", say(held, 50, 21), 1);
        slot("held", held, 0, 3, 2);
        due("worn is held", say(held, 50, 22), 1);
        held.flags(0, 2);
        due("the one that is held", say(held, 50, 20), 1);
        slot("the one that is held", held, 0, 3, 0);
        held.flags(1, 6);
        error("both held", held, say(held, 50, 20), 15, 1);
        asked("both held", held, 15, 0, 1);
        thingOf(held, 1, 20);
        say(held, 50, 20);
        asked("of those that count", held, 15, 0, 1);
        held.flags(4, 10);
        due("a creature that is held", say(held, 50, 23), 1);
        GrammarLines worn = furnished(4);
        error("not worn", worn, say(worn, 50, 21), 12, 1);
        due("worn", say(worn, 50, 22), 1);
        slot("worn", worn, 0, 4, 3);
        error("ALL for worn", worn, say(worn, 50, ALL), 13, 1);
        GrammarLines creature = furnished(5);
        error("no creature", creature, say(creature, 50, 20), 10, 1);
        error("no creature, AND behind", creature, say(creature, 50, 21, AND, 23), 10, 1);
        due("a creature", say(creature, 50, 23), 1);
        slot("a creature", creature, 0, 5, 4);
        error("a creature, AND behind", creature, say(creature, 50, 23, AND, 23), 13, 2);
        GrammarLines two = furnished(2, 5);
        error("the second at its place", two, say(two, 50, 20, 30, 21), 10, 3);
    }

    private static void severalThings() {
        promise = "12 kinds 6 to 8";
        GrammarLines g = furnished(6);
        due("three of them", say(g, 50, 22, AND, 20, 31, COMMA, 21), 1);
        slot("three of them by number", g, 0, 6, 1, 2, 3);
        due("one twice", say(g, 50, 21, AND, 21), 1);
        slot("one twice", g, 0, 6, 2);
        due("a creature by name", say(g, 50, 23), 1);
        error("which, at its own place", g, say(g, 50, 21, AND, 20), 15, 3);
        asked("which of the second", g, 15, 0, 1);
        error("none behind AND", g, say(g, 50, 21, AND, 99), 7, 3);
        error("the words end behind AND", g, say(g, 50, 21, AND), 7, 3);
        error("two joins", g, say(g, 50, 21, COMMA, AND, 22), 7, 3);
        error("ALL in a list", g, say(g, 50, 21, AND, ALL), 13, 3);
        error("words left behind a list", g, say(g, 50, 21, AND, 22, 99), 6, 4);
        GrammarLines held = furnished(7);
        due("held ones", say(held, 50, 21, AND, 22), 1);
        slot("held ones", held, 0, 7, 2, 3);
        error("the second is not held", held, say(held, 50, 21, AND, 20, 30), 11, 3);
        GrammarLines but = furnished(8);
        error("not held for 8", but, say(but, 50, 20, 30), 11, 1);
        due("held for 8", say(but, 50, 21), 1);
        slot("held for 8", but, 0, 8, 2);
    }

    private static void allButSome() {
        promise = "12 ALL";
        GrammarLines g = furnished(6);
        due("all here", say(g, 50, ALL), 1);
        slot("all here, not held, no creatures", g, 0, 6, 0, 1);
        due("all but one", say(g, 50, ALL, BUT, 31), 1);
        slot("all but one", g, 0, 6, 0);
        error("all but the lamps", g, say(g, 50, ALL, BUT, 20), 14, 1);
        error("all but both", g, say(g, 50, ALL, BUT, 30, AND, 31), 14, 1);
        error("all but both by comma", g, say(g, 50, ALL, BUT, 30, COMMA, 31), 14, 1);
        due("all but what is not in it", say(g, 50, ALL, BUT, 21, AND, 23), 1);
        slot("all but what is not in it", g, 0, 6, 0, 1);
        error("BUT and none", g, say(g, 50, ALL, BUT, 99), 7, 3);
        error("BUT at the end", g, say(g, 50, ALL, BUT), 7, 3);
        error("BUT ALL", g, say(g, 50, ALL, BUT, ALL), 7, 3);
        error("BUT 31 AND at the end", g, say(g, 50, ALL, BUT, 31, AND), 7, 5);
        error("BUT 31 AND none", g, say(g, 50, ALL, BUT, 31, AND, 99), 7, 5);
        error("AND behind ALL", g, say(g, 50, ALL, AND, 21), 6, 2);
        error("words left behind ALL BUT", g, say(g, 50, ALL, BUT, 31, 99), 6, 4);
        g.flags(0, 3);
        due("held and here", say(g, 50, ALL), 1);
        slot("held and here is held", g, 0, 6, 1);
        g.flags(1, 0);
        error("none at all", g, say(g, 50, ALL), 14, 1);
        for (int kind = 7; kind <= 8; kind++) {
            GrammarLines held = furnished(kind);
            thingOf(held, 6, 26);
            thingOf(held, 10, 27);
            thingOf(held, 3, 28);
            due("all held", say(held, 50, ALL), 1);
            slot("held, not worn, no creatures", held, 0, kind, 2, 8);
            error("nothing held", held, say(held, 50, ALL, BUT, 21, AND, 28), 14, 1);
        }
    }

    private static void severalButOther() {
        promise = "12 kind 8 and the other slot";
        GrammarLines g = furnished(8, w(70), 2);
        g.flags(0, 2);
        due("all in the lamp", say(g, 50, ALL, 70, 30), 1);
        slot("the other is out", g, 0, 8, 2);
        slot("the other", g, 1, 2, 0);
        error("the key in the key", g, say(g, 50, 21, 70, 21), 14, 1);
        due("the key and the lamp in the key", say(g, 50, 21, AND, 30, 70, 21), 1);
        slot("the key is out", g, 0, 8, 0);
        GrammarLines back = furnished(2, w(70), 8);
        error("8 behind: its place", back, say(back, 50, 21, 70, 21), 14, 3);
        error("8 behind: ALL", back, say(back, 50, 21, 70, ALL), 14, 3);
        back.flags(0, 2);
        due("8 behind: what is left", say(back, 50, 21, 70, ALL), 1);
        slot("8 behind", back, 1, 8, 0);
        GrammarLines seven = furnished(7, w(70), 2);
        due("7 is not 8", say(seven, 50, 21, 70, 21), 1);
        slot("7 is not 8", seven, 0, 7, 2);
        GrammarLines both = furnished(8, w(70), 8);
        due("8 and 8", say(both, 50, 21, 70, 21), 1);
        slot("8 and 8", both, 0, 8, 2);
        GrammarLines six = furnished(8, w(70), 6);
        due("8 and 6", say(six, 50, 21, 70, 21), 1);
        GrammarLines left = furnished(8, w(70), 2);
        error("words left come first", left, say(left, 50, 21, 70, 21, 99), 6, 4);
        for (int kind = 3; kind <= 5; kind++) {
            GrammarLines other = furnished(8, w(70), kind);
            thingOf(other, 15, 29);
            error("the other of kind " + kind, other, say(other, 50, 29, 70, 29), 14, 1);
        }
    }

    private static void topics() {
        promise = "12 topics";
        GrammarLines g = furnished(9);
        due("all words", say(g, 50, 99, ALL, 10007, 20, AND, 98), 1);
        slot("all words", g, 0, 9, 99, ALL, 10007, 20, AND, 98);
        error("a topic lacks", g, say(g, 50), 16, 1);
        asked("a topic lacks", g, 16, 9);
        GrammarLines upTo = furnished(9, w(70), or(71), 10);
        due("up to 70", say(upTo, 50, 90, 91, 70, 10005), 1);
        slot("up to 70", upTo, 0, 9, 90, 91);
        slot("the number", upTo, 1, 10, 5);
        due("up to 71", say(upTo, 50, 90, 71, 10005), 1);
        slot("up to 71", upTo, 0, 9, 90);
        due("its own first does not end it", say(upTo, 50, 70, 71, 10005), 1);
        slot("its own first does not end it", upTo, 0, 9, 70);
        error("the first that ends it", upTo, say(upTo, 50, 90, 70, 70, 10005), 8, 3);
        error("up to the end", upTo, say(upTo, 50, 90, 91), 16, 3);
        asked("up to the end", upTo, 16, 10, 70);
        GrammarLines closed = furnished(9, w(70));
        error("no word behind the topic", closed, say(closed, 50, 90, 91), 5, 3);
        due("a word behind the topic", say(closed, 50, 90, 70), 1);
        error("words left behind", closed, say(closed, 50, 90, 70, 70), 6, 3);
    }

    private static void numbersAndCustoms() {
        promise = "12 numbers and customs";
        GrammarLines g = furnished(10, custom(3));
        g.custom(3, 80, 0);
        g.custom(3, 10004, 77);
        g.custom(4, 81, 5);
        due("0 and 80", say(g, 50, 10000, 80), 1);
        slot("number 0", g, 0, 10, 0);
        slot("value 0", g, 1, 11, 0);
        due("9999 and a number", say(g, 50, 19999, 10004), 1);
        slot("number 9999", g, 0, 10, 9999);
        slot("value of a number", g, 1, 11, 77);
        error("no number", g, say(g, 50, 9999, 80), 8, 1);
        error("no value", g, say(g, 50, 10001, 99), 9, 2);
        error("a value of another", g, say(g, 50, 10001, 81), 9, 2);
        error("the value lacks", g, say(g, 50, 10001), 16, 2);
        asked("the value lacks", g, 16, 11);
        error("both lack", g, say(g, 50), 16, 1);
        asked("both lack", g, 16, 10);
    }

    private static void wordTokens() {
        promise = "12 word tokens";
        GrammarLines g = furnished(w(70), or(71), or(72), w(73), 2);
        for (int first : new int[] {70, 71, 72}) {
            due("first word " + first, say(g, 50, first, 73, 21), 1);
            slot("first word " + first, g, 0, 2, 2);
        }
        error("another word", g, say(g, 50, 73, 73, 21), 5, 1);
        error("another second word", g, say(g, 50, 70, 71, 21), 5, 2);
        GrammarLines end = furnished(2, w(70), w(71));
        error("the words end ahead of words", end, say(end, 50, 21), 5, 2);
        error("the words end ahead of the last", end, say(end, 50, 21, 70), 5, 3);
        GrammarLines none = oneLine();
        due("a line without tokens", say(none, 50), 1);
        error("words left", none, say(none, 50, 20), 6, 1);
        error("no verb", none, say(none, 51, 20), 2, 0);
        due("told(2) of no verb", none.told(2), NONE);
        due("told(4) of no verb", none.told(4), 0);
        none.verb(52);
        error("no lines", none, say(none, 52), 2, 0);
    }

    private static void filling() {
        promise = "12, 16 filling";
        GrammarLines g = new GrammarLines();
        g.verb(50);
        lineOf(g, 0, 1, true, 2, w(70), or(71), 3, w(72), or(73));
        int lamp = thingOf(g, 1, 20);
        int key = thingOf(g, 2, 21);
        thingOf(g, 9, 23);
        due("50 20", say(g, 50, 20), 1);
        filled("50 20", g, 70, 20000 + key, 72);
        slot("filled, reversed", g, 0, 3, key);
        slot("given, reversed", g, 1, 2, lamp);
        command("what is filled is not said", g, 50, 20);
        due("told(1) of an action", g.told(1), NONE);
        due("the words end ahead of the slot", say(g, 50, 20, 71), 1);
        filled("ahead of the slot", g, 20000 + key, 72);
        due("all is said", say(g, 50, 20, 70, 21, 73), 1);
        filled("all is said", g);
        error("the words end behind the slots", g, say(g, 50, 20, 70, 21), 5, 4);
        filled("an error", g);
        error("the key is among the things", g, say(g, 50, 21), 16, 2);
        asked("the key is among the things", g, 16, 3, 70);
        error("two nouns go", g, say(g, 50), 16, 1);
        asked("two nouns go", g, 16, 2);
        g.flags(key, 10);
        error("a held creature does not go", g, say(g, 50, 20), 16, 2);
        error("a noun goes, no held one", g, say(g, 50), 16, 1);
        g.flags(key, 4);
        due("what is worn is held", say(g, 50, 20), 1);
        thingOf(g, 2, 26);
        error("two held", g, say(g, 50, 20), 16, 2);
        due("what is held already leaves one", say(g, 50, 26), 1);
        filled("what is held already leaves one", g, 70, 20000 + key, 72);

        GrammarLines each = new GrammarLines();
        each.verb(50);
        lineOf(each, 0, 1, false, 4, 5);
        int worn = thingOf(each, 12, 20);
        int far = thingOf(each, 8, 21);
        error("the worn creature is the only one", each, say(each, 50), 16, 1);
        asked("the first slot lacks", each, 16, 4);
        each.flags(far, 9);
        due("each has one", say(each, 50), 1);
        filled("each has one", each, 20000 + worn, 20000 + far);
        slot("the worn", each, 0, 4, worn);
        slot("the creature", each, 1, 5, far);
        thingOf(each, 9, 22);
        error("two creatures", each, say(each, 50), 16, 1);

        GrammarLines order = new GrammarLines();
        order.verb(50);
        lineOf(order, 0, 1, false, 3, 2);
        int held = thingOf(order, 2, 20);
        int here = thingOf(order, 1, 21);
        due("those filled before do not go", say(order, 50), 1);
        filled("those filled before", order, 20000 + held, 20000 + here);
        GrammarLines other = new GrammarLines();
        other.verb(50);
        lineOf(other, 0, 1, false, 2, 3);
        thingOf(other, 2, 20);
        thingOf(other, 1, 21);
        error("in order", other, say(other, 50), 16, 1);
        for (int kind = 6; kind <= 11; kind++) {
            GrammarLines late = new GrammarLines();
            late.verb(50);
            lineOf(late, 0, 1, false, 2, w(70), kind);
            thingOf(late, 1, 20);
            error("kind " + kind + " is not filled", late, say(late, 50), 16, 1);
            asked("kind " + kind, late, 16, 2);
            error("kind " + kind + " alone", late, say(late, 50, 20), 16, 2);
            asked("kind " + kind + " alone", late, 16, kind, 70);
        }
        GrammarLines several = furnished(8, 2);
        several.flags(3, 2);
        several.flags(1, 0);
        due("those of 8 are among the things", say(several, 50, ALL), 1);
        filled("those of 8 are among the things", several, 20000);
        slot("8 keeps its own", several, 0, 8, 2, 3);
    }

    private static void asking() {
        promise = "15 asked";
        GrammarLines g = furnished(w(70), w(71), or(72), 2, w(73), 6);
        error("50 lacks", g, say(g, 50), 16, 1);
        asked("50 lacks", g, 16, 2, 70, 71);
        due("asked(-2)", g.asked(-2), NONE);
        error("one word less to tell", g, say(g, 50, 70), 16, 2);
        asked("one word less to tell", g, 16, 2, 71);
        error("which", g, say(g, 50, 70, 71, 20), 15, 3);
        asked("which", g, 15, 0, 1);
        due("object while asked", g.object(0, -2), NONE);
        due("a refused answer", g.answer(9), OUTSIDE);
        asked("behind a refused answer", g, 15, 0, 1);
        g.flags(0, 0);
        asked("what was asked stays", g, 15, 0, 1);
        g.word(99);
        asked("word() does not end it", g, 15, 0, 1);
        error("parse() does", g, g.parse(), 2, 0);
        asked("nothing", g, 0);
        due("answer to nothing", g.answer(20), STATE);
    }

    private static void greatestError() {
        promise = "12 the greatest error";
        GrammarLines g = furnished(2);
        lineOf(g, 0, 2, false, 3);
        lineOf(g, 0, 3, false, 6, w(70), 2);
        lineOf(g, 0, 4, false, 5);
        error("11 of 13, 11, 5", g, say(g, 50, 20, 30, AND, 20, 31, 99), 13, 3);
        due("told(2)", g.told(2), 0);
        due("told(4)", g.told(4), 4);
        due("first 15 of two", say(g, 50, 20), 0);
        due("told(2) of the first 15", g.told(2), 0);
        error("16 is greater than 15", g, say(g, 50, 20, 30, AND, 20, 31), 16, 6);
        due("told(2) of 16", g.told(2), 2);
        due("the answer goes behind all", g.answer(21), 3);
        command("with what was told", g, 50, 20, 30, AND, 20, 31, 70, 21);
        due("the first that fits", say(g, 50, 21), 1);
        due("told(4) of the first", g.told(4), 1);
        GrammarLines two = furnished(9, w(70));
        lineOf(two, 0, 2, false, 2, w(70));
        error("of several the first", two, say(two, 50, 21, 99), 5, 3);
        due("told(2) of several", two.told(2), 0);
        due("trace(1, 1) of several", two.trace(1, 1), 5);
        due("trace(1, 2) of several", two.trace(1, 2), 2);
    }

    private static void again() {
        promise = "12 AGAIN";
        GrammarLines g = furnished(2);
        error("at first", g, say(g, 23, COMMA, AGAIN), 3, NONE);
        command("at first", g, AGAIN);
        due("told(3) of 3", g.told(3), 4);
        due("told(2) of 3", g.told(2), NONE);
        due("an order", say(g, 23, COMMA, 50, 21), 1);
        error("an error between", g, say(g, 50, 99), 7, 1);
        due("AGAIN", say(g, AGAIN), 1);
        command("AGAIN", g, 50, 21);
        due("to whom", g.told(3), 4);
        slot("AGAIN", g, 0, 2, 2);
        say(g, 50, 20);
        due("answer", g.answer(30), 1);
        due("AGAIN of an answer", say(g, AGAIN), 1);
        command("AGAIN of an answer", g, 50, 20, 30);
        due("to none", g.told(3), NONE);
        g.verb(51);
        lineOf(g, 1, 2, false);
        due("one word", say(g, 51), 2);
        due("AGAIN of one word", say(g, AGAIN), 2);
        due("the longer one", say(g, 50, 20, 30), 1);
        due("bob, AGAIN", say(g, 23, COMMA, AGAIN), 1);
        due("goes to whom that went", g.told(3), NONE);
        error("AGAIN and more", g, say(g, AGAIN, 21), 2, 0);
        command("AGAIN and more", g, AGAIN, 21);
        due("AGAIN THEN AGAIN", say(g, AGAIN, THEN, AGAIN), 1);
        due("the second AGAIN", g.parse(), 1);
        g.flags(0, 0);
        error("it is tried anew", g, say(g, AGAIN), 6, 2);
        command("it is tried anew", g, 50, 20, 30);
    }

    private static void oops() {
        promise = "12 OOPS";
        GrammarLines g = furnished(2);
        error("at first", g, say(g, 23, COMMA, OOPS, 21), 4, NONE);
        command("at first", g, OOPS, 21);
        due("told(3) of 4", g.told(3), 4);
        error("a word of none", g, say(g, 23, COMMA, 50, 99), 7, 1);
        due("OOPS 21", say(g, OOPS, 21), 1);
        command("OOPS 21", g, 50, 21);
        due("to whom", g.told(3), 4);
        error("behind an action", g, say(g, OOPS, 22), 4, NONE);
        error("behind 4", g, say(g, OOPS, 22), 4, NONE);
        error("no verb", g, say(g, 59, 21), 2, 0);
        due("a verb in its place", say(g, OOPS, 50), 1);
        due("to none", g.told(3), NONE);
        error("which", g, say(g, 50, 20), 15, 1);
        due("OOPS of 15", say(g, OOPS, 21), 1);
        error("what", g, say(g, 50), 16, 1);
        error("no word stands there", g, say(g, OOPS, 21), 4, NONE);
        asked("it is not asked any more", g, 0);
        error("no words", g, g.parse(), 1, NONE);
        error("OOPS of 1", g, say(g, OOPS, 21), 4, NONE);
        error("AND behind", g, say(g, 50, 21, AND, 22), 13, 2);
        error("its place", g, say(g, OOPS, 99), 6, 2);
        command("its place", g, 50, 21, 99, 22);
        error("an error anew", g, say(g, OOPS, 98), 6, 2);
        command("an error anew", g, 50, 21, 98, 22);
        error("OOPS alone", g, say(g, OOPS), 2, 0);
        command("OOPS alone", g, OOPS);
        error("OOPS and two words", g, say(g, OOPS, 50, 21), 2, 0);
        error("OOPS for OOPS", g, say(g, OOPS, 50), 7, 1);
        command("OOPS for OOPS", g, 50, 50, 21);
        GrammarLines h = furnished(9, w(70));
        error("no word at the place of 5", h, say(h, 50, 90), 5, 2);
        error("OOPS of that", h, say(h, OOPS, 70), 4, NONE);
        GrammarLines none = furnished(2);
        error("3", none, say(none, AGAIN), 3, NONE);
        error("OOPS of 3", none, say(none, OOPS, 21), 4, NONE);
    }

    private static void inputTakenAway() {
        promise = "12 what stays of INPUT";
        GrammarLines g = furnished(2);
        say(g, 50, 20, THEN, 50, 21);
        due("asked: it stays", g.told(5), 2);
        due("said(1, 0)", g.said(1, 0), 50);
        due("said(1, 1)", g.said(1, 1), 21);
        g.clear();
        say(g, 50, THEN, 50, 21);
        error("an answer with an error", g, g.answer(99), 7, 1);
        due("takes it away", g.told(5), 0);
        say(g, 50, 20, THEN, 50, 22);
        due("an answer with an action", g.answer(30), 1);
        due("leaves it", g.told(5), 2);
        due("the next", g.parse(), 1);
        slot("the next", g, 0, 2, 3);
        error("2", g, say(g, 99, 98, THEN, 50, 21), 2, 0);
        due("2 takes it away", g.told(5), 0);
        error("OOPS with 7", g, say(g, OOPS, 50, THEN, 50, 21), 7, 1);
        due("7 takes it away", g.told(5), 0);
        due("an action leaves it", say(g, 50, 21, THEN, 50, 22), 1);
        g.clear();
        error("4 takes it away", g, say(g, OOPS, 21, THEN, 50), 4, NONE);
        due("told(5) of 4", g.told(5), 0);
        GrammarLines h = furnished(2);
        error("3 takes it away", h, say(h, AGAIN, THEN, 50), 3, NONE);
        due("told(5) of 3", h.told(5), 0);
    }

    // ---- promise 13: answer ----

    private static void answers() {
        promise = "13 answer";
        GrammarLines g = furnished(2, w(70), 2);
        due("answer(20) to nothing", g.answer(20), STATE);
        due("answer(8) to nothing", g.answer(8), OUTSIDE);
        for (int bad : new int[] {-1, 0, 8, 9, 20000}) {
            due("answer(" + bad + ")", g.answer(bad), OUTSIDE);
        }
        say(g, 50, 20, 70, 21);
        asked("the first", g, 15, 0, 1);
        due("behind the phrase", g.answer(31), 1);
        command("behind the phrase", g, 50, 20, 31, 70, 21);
        say(g, 50, 21, 70, 20);
        due("behind the second phrase", g.answer(30), 1);
        command("behind the second phrase", g, 50, 21, 70, 20, 30);
        say(g, 50, 20, 20, 70, 21);
        due("behind a phrase of two words", g.answer(30), 1);
        command("behind a phrase of two words", g, 50, 20, 20, 30, 70, 21);
        say(g, 50, 21);
        asked("what", g, 16, 2, 70);
        error("an answer is asked of", g, g.answer(20), 15, 3);
        command("with what was told", g, 50, 21, 70, 20);
        due("and again", g.answer(30), 1);
        say(g, 50, 21);
        error("told words are not looked for", g, g.answer(70), 7, 3);
        command("told words come twice", g, 50, 21, 70, 70);
        say(g, 50, 21);
        error("THEN is a word like others", g, g.answer(THEN), 7, 3);
        say(g, 50, 21);
        error("ALL is", g, g.answer(ALL), 13, 3);
        say(g, 50, 20, 70, 21);
        error("AGAIN is", g, g.answer(AGAIN), 15, 1);
        command("AGAIN is", g, 50, 20, AGAIN, 70, 21);
        say(g, 50, 20, 70, 21);
        error("AND is", g, g.answer(AND), 15, 1);
        command("AND is", g, 50, 20, AND, 70, 21);
        g.verb(51);
        lineOf(g, 1, 9, false);
        say(g, 23, COMMA, 50, 20, THEN, 50, 21);
        due("told(3) while asked", g.told(3), 4);
        due("a verb's word", g.answer(51), 9);
        command("a verb's word", g, 51);
        due("it goes to none", g.told(3), NONE);
        due("INPUT is that alone", g.told(5), 0);
        asked("nothing is asked then", g, 0);
        g.verb(52);
        say(g, 50, 20);
        error("a verb without lines", g, g.answer(52), 2, 0);
        g.name(0, 51);
        say(g, 50, 20);
        due("a verb's word that is a name", g.answer(51), 9);
        say(g, 50, 20);
        error("the same verb", g, g.answer(50), 16, 1);
        command("the same verb", g, 50);
    }

    private static void answerRoom() {
        promise = "13 room";
        for (int many = 57; many <= 60; many++) {
            GrammarLines g = furnished(9, w(70), or(69), 2);
            for (int i = 0; i < many; i++) {
                g.word(i == 0 ? 50 : 90);
            }
            error("a long topic", g, g.parse(), 16, many);
            due("words and the answer, " + many, g.answer(21), many <= 58 ? 1 : ROOM);
            due("words of the command, " + many, g.told(6), many <= 58 ? many + 2 : many);
            due("asked, " + many, g.asked(-1), many <= 58 ? 0 : 16);
            due("a word outside, " + many, g.answer(8), OUTSIDE);
            due("a verb's word, " + many, g.answer(50), many <= 58 ? STATE : 0);
        }
        for (int many = 59; many <= 60; many++) {
            GrammarLines g = furnished(2, 9);
            for (int i = 0; i < many; i++) {
                g.word(i == 0 ? 50 : i == 1 ? 20 : 90);
            }
            error("which of a long command", g, g.parse(), 15, 1);
            due("one more word, " + many, g.answer(31), many < 60 ? 1 : ROOM);
            due("told(6), " + many, g.told(6), 60);
            due("the last word, " + many, g.said(0, 59), 90);
        }
    }

    // ---- promises 14 to 19 ----

    private static void objects() {
        promise = "14 object";
        GrammarLines g = furnished(2);
        lineOf(g, 0, 2, true, 2, w(70), 9);
        lineOf(g, 0, 3, false, 2, w(71), 9);
        g.verb(51);
        lineOf(g, 1, 4, true, 2);
        due("in order", say(g, 50, 21, 71, 90, 91), 3);
        slot("in order", g, 0, 2, 2);
        slot("in order", g, 1, 9, 90, 91);
        due("reversed", say(g, 50, 21, 70, 90, 91), 2);
        slot("reversed", g, 0, 9, 90, 91);
        slot("reversed", g, 1, 2, 2);
        due("object(2, -2)", g.object(2, -2), NONE);
        due("object(-1, -2)", g.object(-1, -2), NONE);
        due("object(0, -3)", g.object(0, -3), NONE);
        due("object(0, 2)", g.object(0, 2), NONE);
        due("object(0, min)", g.object(0, Integer.MIN_VALUE), NONE);
        due("object(0, max)", g.object(0, Integer.MAX_VALUE), NONE);
        due("one slot, reversed", say(g, 51, 21), 4);
        slot("one slot, reversed", g, 0, 2, 2);
        due("object(1, -2) of one slot", g.object(1, -2), NONE);
        due("object(1, -1) of one slot", g.object(1, -1), NONE);
        g.token(3, 0, 70);
        g.token(3, 2, 0);
        slot("tokens that come later", g, 0, 2, 2);
        due("object(1, -2) then", g.object(1, -2), NONE);
        say(g, 99);
        due("object(0, -2) of an error", g.object(0, -2), NONE);
        due("object(0, -1) of an error", g.object(0, -1), NONE);
        due("object(0, 0) of an error", g.object(0, 0), NONE);
    }

    private static void toldAndTraced() {
        promise = "17, 18, 19";
        GrammarLines g = furnished(3);
        g.verb(51);
        lineOf(g, 1, 8, false);
        lineOf(g, 0, 2, false, 5);
        lineOf(g, 0, 3, false, 2, w(70), 2);
        lineOf(g, 0, 4, false, 2);
        due("the fourth line fits", say(g, 50, 20, 30), 4);
        int[][] traced = {{0, 11, 1}, {2, 10, 1}, {3, 16, 3}, {4, 0, NONE}};
        for (int i = 0; i < traced.length; i++) {
            for (int what = 0; what < 3; what++) {
                due("trace(" + i + ", " + what + ")", g.trace(i, what), traced[i][what]);
            }
        }
        for (int what = 0; what < 3; what++) {
            due("trace(4, " + what + ")", g.trace(4, what), NONE);
            due("trace(-1, " + what + ")", g.trace(-1, what), NONE);
        }
        due("trace(0, 3)", g.trace(0, 3), NONE);
        due("trace(0, -1)", g.trace(0, -1), NONE);
        due("told(0)", g.told(0), 0);
        due("told(1)", g.told(1), NONE);
        due("told(2)", g.told(2), 4);
        due("told(4)", g.told(4), 4);
        asked("a line that fits ends the asking", g, 0);
        g.word(50);
        g.custom(0, 20, 1);
        int[] counts = {1, 3, 2, 5, 6, 1};
        for (int i = 0; i < counts.length; i++) {
            due("told(" + (5 + i) + ")", g.told(5 + i), counts[i]);
        }
        due("told(11)", g.told(11), NONE);
        due("told(-1)", g.told(-1), NONE);
        due("told(0) is of the latest", g.told(0), 0);
        due("said(0, 0)", g.said(0, 0), 50);
        due("said(0, 2)", g.said(0, 2), 30);
        due("said(0, 3)", g.said(0, 3), NONE);
        due("said(0, -1)", g.said(0, -1), NONE);
        due("said(1, 0)", g.said(1, 0), 50);
        due("said(1, 1)", g.said(1, 1), NONE);
        g.clear();
        due("another verb", say(g, 51), 8);
        int[] one = {1, 0, NONE};
        for (int what = 0; what < 3; what++) {
            due("trace(0, " + what + ") of the latest", g.trace(0, what), one[what]);
            due("trace(1, " + what + ") of the latest", g.trace(1, what), NONE);
        }
        error("no line is tried", g, g.parse(), 1, NONE);
        due("trace(0, 1) of none", g.trace(0, 1), NONE);
        due("told(4) of none", g.told(4), 0);
        due("trace(0, 0) of none", g.trace(0, 0), NONE);
    }

    private static void refusalsChangeNothing() {
        promise = "refusals";
        GrammarLines g = furnished(2);
        say(g, 50, 20, THEN, 50, 21);
        List<Integer> before = everything(g);
        g.verb(50);
        g.verb(5);
        g.like(1, 51);
        g.like(0, 50);
        g.line(7, 1, false);
        g.line(0, 0, false);
        g.token(0, 1, 20);
        g.token(0, 12, 20);
        g.thing(16);
        g.name(9, 20);
        g.name(0, 5);
        g.flags(9, 1);
        g.flags(0, 16);
        g.custom(10, 20, 1);
        g.word(8);
        g.answer(8);
        due("all is as it was", everything(g).equals(before) ? 1 : 0, 1);
        due("the answer", g.answer(30), 1);
        due("the next", g.parse(), 1);
        due("flags are as they were", g.flags(0, 1), 1);
    }
}
