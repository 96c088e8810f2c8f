import java.util.function.ToIntFunction;

/**
 * The bounds of part 1 and of promises 1 to 11: the last number that may be and the first that may not, at both
 * ends; nothing there, and all room taken; what is refused, why first, and that it changes nothing.
 */
public final class LimitsTest extends Checks {
    private static final int[] BELOW_WORDS = {LEAST, -104, -101, -1, 0, 1, 7, 8, 9};
    private static final int[] NO_PLAIN_WORDS = {LEAST, -101, -1, 0, 1, 2, 3, 4, 5, 6, 7, 8, 9, 10000, 10010, 19999, 20000, MOST};
    private static final int[] NO_WORDS = {LEAST, -101, -1, 0, 8, 9, 20000, 20001, 30000, MOST};
    private static final int[] ALL_WORD_EDGES = {1, 2, 3, 4, 5, 6, 7, 10, 11, 9998, 9999, 10000, 10001, 19998, 19999};

    public static void main(String[] args) {
        newObjectHasNothing();
        newObjectRefusesNumbersOfNothing();
        objectsShareNothing();
        usedForManyCalls();
        wordsOfInput();
        numbersThatWordsStandFor();
        inputRoom();
        clearOfNothingAndOfAll();
        verbWords();
        verbWordsAreNoTwoTheSame();
        verbRoom();
        verbWordRoomByVerb();
        likeOfWhichVerb();
        likeWords();
        likeRoom();
        lineOfWhichVerb();
        lineActions();
        lineRoom();
        lastLineOfAll();
        tokenOfWhichLine();
        tokenKinds();
        tokenWords();
        tokenCustomNumbers();
        tokenOfDoesNotMatter();
        tokenOneBehindWhat();
        tokenSlots();
        tokenBehindTopic();
        tokenRoom();
        oneTokenWithEightWords();
        linesHaveTheirOwnTokens();
        lastKindOfTheLastLine();
        thingFlags();
        thingRoom();
        nameOfWhichThing();
        nameWords();
        nameRoom();
        fullNamesStayTheirOwn();
        flagsOfWhichThing();
        flagsBounds();
        flagsOfFirstAndLast();
        customNumbers();
        customWords();
        customValues();
        customRoom();
        customInPlaceOfOne();
        firstReasonOfSeveral();
        refusedCallsChangeNothing();
        refusedGrammarIsNotTried();
        end();
    }

    // ---- promise 1 ----

    private static void newObjectHasNothing() {
        promise = "No verbs, lines, things, values, words";
        GrammarLines g = new GrammarLines();
        for (int what = 5; what <= 10; what++) {
            due("told(" + what + ")", g.told(what), 0);
        }
        due("the error", g.told(0), 0);
        due("its place", g.told(1), NONE);
        due("the line", g.told(2), NONE);
        due("to whom", g.told(3), NONE);
        due("lines tried", g.told(4), 0);
        noSlot("slot 0", g, 0);
        noSlot("slot 1", g, 1);
        asked("nothing asked", g, 0);
        filled("nothing filled", g);
        command("no command", g);
        input("no input", g);
        traced("nothing tried", g, 0, NONE, NONE, NONE);
    }

    private static void newObjectRefusesNumbersOfNothing() {
        promise = "a number that names nothing, of a new object";
        GrammarLines g = new GrammarLines();
        for (int number : new int[] {LEAST, -1, 0, 1, MOST}) {
            refused("like(" + number + ")", g, x -> x.like(number, 50), UNKNOWN);
            refused("line(" + number + ")", g, x -> x.line(number, 1, false), UNKNOWN);
            refused("token(" + number + ")", g, x -> x.token(number, 2, 0), UNKNOWN);
            refused("name(" + number + ")", g, x -> x.name(number, 20), UNKNOWN);
            refused("flags(" + number + ")", g, x -> x.flags(number, 1), UNKNOWN);
        }
        refused("answer(20)", g, x -> x.answer(20), STATE);
        due("clear()", g.clear(), 0);
        due("word(50)", g.word(50), 1);
        error("a word without verbs", g, g.parse(), 2, 0);
    }

    private static void objectsShareNothing() {
        promise = "A new object, beside another";
        GrammarLines used = furnished(2);
        used.custom(0, 20, 1);
        say(used, 50, 20, THEN, 50, 21);
        GrammarLines other = new GrammarLines();
        for (int what = 4; what <= 10; what++) {
            due("told(" + what + ")", other.told(what), 0);
        }
        asked("nothing is asked of it", other, 0);
        due("its first verb", other.verb(50), 0);
        due("its first thing", other.thing(1), 0);
        asked("of the one it is", used, 15, 0, 1);
    }

    private static void usedForManyCalls() {
        promise = "used for at most 512 calls";
        GrammarLines g = furnished(2);
        for (int call = 18; call + 4 <= 512; call += 4) {
            due("word(50) at call " + call, g.word(50), 1);
            due("word(21) at call " + call, g.word(21), 2);
            due("parse() at call " + call, g.parse(), 1);
            due("object(0, 0) at call " + call, g.object(0, 0), 2);
        }
    }

    // ---- words and INPUT: promises 10 and 11 ----

    private static void wordsOfInput() {
        promise = "1 AND .. 7 COMMA; 10 .. 9999; 10000 .. 19999: word";
        GrammarLines g = new GrammarLines();
        for (int bad : NO_WORDS) {
            refused("word(" + bad + ")", g, x -> x.word(bad), OUTSIDE);
        }
        for (int i = 0; i < ALL_WORD_EDGES.length; i++) {
            due("word(" + ALL_WORD_EDGES[i] + ")", g.word(ALL_WORD_EDGES[i]), i + 1);
        }
        input("the words", g, ALL_WORD_EDGES);
        GrammarLines asks = furnished(9, w(70), 2);
        for (int bad : NO_WORDS) {
            refused("answer(" + bad + ") to nothing", asks, x -> x.answer(bad), OUTSIDE);
        }
        for (int good : ALL_WORD_EDGES) {
            asks.clear();
            error("asked for", asks, say(asks, 50, 90), 16, 2);
            for (int bad : NO_WORDS) {
                refused("answer(" + bad + ")", asks, x -> x.answer(bad), OUTSIDE);
            }
            asks.answer(good);
            due("answer(" + good + ") is in the command", asks.said(0, 3), good);
        }
    }

    private static void numbersThatWordsStandFor() {
        promise = "10000 .. 19999, which stand for the numbers 0 .. 9999";
        GrammarLines g = oneLine(10);
        for (int number : new int[] {0, 1, 4999, 9998, 9999}) {
            due("the word of " + number, say(g, 50, 10000 + number), 1);
            slot("the word of " + number, g, 0, 10, number);
        }
        for (int bad : new int[] {1, 4, 7, 10, 11, 9998, 9999}) {
            error("word " + bad + " stands for none", g, say(g, 50, bad), 8, 1);
        }
    }

    private static void inputRoom() {
        promise = "INPUT is a row of words, 60 at most";
        GrammarLines g = furnished(9);
        for (int i = 1; i <= 59; i++) {
            due("word " + i, g.word(i == 1 ? 50 : 90), i);
        }
        due("the 60th", g.word(19999), 60);
        due("said(1, 59)", g.said(1, 59), 19999);
        refused("a 61st", g, x -> x.word(90), ROOM);
        refused("a 61st that is none", g, x -> x.word(9), OUTSIDE);
        due("all 60", g.parse(), 1);
        due("words of the topic", g.object(0, -1), 59);
        due("the last of them", g.object(0, 58), 19999);
        due("behind the last", g.object(0, 59), NONE);
        due("words of the command", g.told(6), 60);
        due("the last word of the command", g.said(0, 59), 19999);
        due("room again", g.word(90), 1);
    }

    private static void clearOfNothingAndOfAll() {
        promise = "INPUT has no words any more: how many it had";
        GrammarLines g = new GrammarLines();
        due("of nothing", g.clear(), 0);
        g.word(90);
        due("of one", g.clear(), 1);
        due("of one, again", g.clear(), 0);
        for (int i = 0; i < 61; i++) {
            g.word(90 + i);
        }
        due("of all", g.clear(), 60);
        input("nothing is left", g);
        due("the first word anew", g.word(91), 1);
        input("the first word anew", g, 91);
    }

    // ---- verbs: promises 2 and 3 ----

    private static void verbWords() {
        promise = "words of 10 .. 9999: verb";
        GrammarLines g = new GrammarLines();
        for (int bad : NO_PLAIN_WORDS) {
            refused("verb(" + bad + ")", g, x -> x.verb(bad), OUTSIDE);
        }
        due("verb(10)", g.verb(10), 0);
        due("verb(9999)", g.verb(9999), 1);
        g.line(0, 1, false);
        g.line(1, 2, false);
        due("the least word", say(g, 10), 1);
        due("the greatest word", say(g, 9999), 2);
    }

    private static void verbWordsAreNoTwoTheSame() {
        promise = "no two the same one";
        GrammarLines g = new GrammarLines();
        g.verb(50);
        g.verb(51);
        g.like(1, 52);
        for (int word = 50; word <= 52; word++) {
            int taken = word;
            refused("verb(" + word + ")", g, x -> x.verb(taken), OUTSIDE);
            refused("like(0, " + word + ")", g, x -> x.like(0, taken), OUTSIDE);
            refused("like(1, " + word + ")", g, x -> x.like(1, taken), OUTSIDE);
        }
        due("the next verb", g.verb(53), 2);
        due("the next word", g.like(1, 54), 3);
        g.thing(1);
        due("a verb's word may be a name", g.name(0, 50), 1);
        g.line(0, 1, false);
        due("a verb's word may be a line's", g.token(0, 0, 50), 1);
    }

    private static void verbRoom() {
        promise = "VERBS, 20 at most";
        GrammarLines g = new GrammarLines();
        for (int i = 0; i < 20; i++) {
            due("verb " + i, g.verb(100 + i), i);
        }
        refused("a 21st", g, x -> x.verb(200), ROOM);
        refused("a 21st with a word that is there", g, x -> x.verb(119), OUTSIDE);
        refused("a 21st with no word", g, x -> x.verb(9), OUTSIDE);
        due("one more word still goes", g.like(19, 200), 2);
        due("told(7)", g.told(7), 20);
        due("a line of the last", g.line(19, 7, false), 0);
        due("the last verb", say(g, 119), 7);
        refused("a line of one behind the last", g, x -> x.line(20, 7, false), UNKNOWN);
    }

    private static void verbWordRoomByVerb() {
        promise = "60 in all: verb";
        GrammarLines g = new GrammarLines();
        g.verb(50);
        for (int i = 2; i <= 59; i++) {
            g.like(0, 100 + i);
        }
        due("a verb with the 60th word", g.verb(51), 1);
        refused("a verb with a 61st", g, x -> x.verb(52), ROOM);
        refused("a verb with a 61st that is there", g, x -> x.verb(51), OUTSIDE);
        due("told(7)", g.told(7), 2);
    }

    private static void likeOfWhichVerb() {
        promise = "like: UNKNOWN";
        GrammarLines g = new GrammarLines();
        g.verb(50);
        g.verb(51);
        for (int number : new int[] {LEAST, -101, -2, -1, 2, 3, 20, MOST}) {
            refused("like(" + number + ", 52)", g, x -> x.like(number, 52), UNKNOWN);
        }
        due("like(0, 52)", g.like(0, 52), 2);
        due("like(1, 53)", g.like(1, 53), 2);
    }

    private static void likeWords() {
        promise = "words of 10 .. 9999: like";
        GrammarLines g = new GrammarLines();
        g.verb(50);
        g.line(0, 1, false);
        for (int bad : NO_PLAIN_WORDS) {
            refused("like(0, " + bad + ")", g, x -> x.like(0, bad), OUTSIDE);
        }
        due("like(0, 10)", g.like(0, 10), 2);
        due("like(0, 9999)", g.like(0, 9999), 3);
        due("the least word", say(g, 10), 1);
        due("the greatest word", say(g, 9999), 1);
        due("the first word", say(g, 50), 1);
    }

    private static void likeRoom() {
        promise = "60 in all: like";
        GrammarLines g = new GrammarLines();
        for (int i = 0; i < 20; i++) {
            g.verb(100 + i);
        }
        for (int i = 20; i < 60; i++) {
            due("word " + i, g.like(i % 20, 100 + i), i / 20 + 1);
        }
        for (int verb = 0; verb < 20; verb += 19) {
            int of = verb;
            refused("a 61st of verb " + verb, g, x -> x.like(of, 200), ROOM);
            refused("a 61st that is there", g, x -> x.like(of, 159), OUTSIDE);
        }
        refused("a 61st of none", g, x -> x.like(20, 200), UNKNOWN);
        g.line(19, 9, false);
        due("the 60th word", say(g, 159), 9);
        error("the 61st is none", g, say(g, 200), 2, 0);
    }

    // ---- lines: promises 4 and 5 ----

    private static void lineOfWhichVerb() {
        promise = "line: UNKNOWN";
        GrammarLines g = new GrammarLines();
        g.verb(50);
        g.verb(51);
        for (int number : new int[] {LEAST, -2, -1, 2, 3, 20, MOST}) {
            refused("line(" + number + ", 1, true)", g, x -> x.line(number, 1, true), UNKNOWN);
        }
        due("line(0, 3, true)", g.line(0, 3, true), 0);
        due("line(1, 4, true)", g.line(1, 4, true), 1);
        due("verb 0 has its own", say(g, 50), 3);
        due("verb 1 has its own", say(g, 51), 4);
    }

    private static void lineActions() {
        promise = "an ACTION (1 .. 9999)";
        GrammarLines g = new GrammarLines();
        g.verb(50);
        g.verb(51);
        for (int bad : new int[] {LEAST, -9999, -1, 0, 10000, 10001, MOST}) {
            refused("line(0, " + bad + ", false)", g, x -> x.line(0, bad, false), OUTSIDE);
        }
        due("the least", g.line(0, 1, false), 0);
        due("the greatest", g.line(1, 9999, false), 1);
        due("the least action", say(g, 50), 1);
        due("the greatest action", say(g, 51), 9999);
    }

    private static void lineRoom() {
        promise = "LINES, 60 at most, numbered from 0 on as they come";
        GrammarLines g = new GrammarLines();
        g.verb(50);
        g.verb(51);
        for (int i = 0; i < 60; i++) {
            due("line " + i, g.line(i % 2, 100 + i, false), i);
            g.token(i, 0, 70 + i / 2);
        }
        refused("a 61st of verb 0", g, x -> x.line(0, 1, false), ROOM);
        refused("a 61st of verb 1", g, x -> x.line(1, 1, true), ROOM);
        refused("a 61st with no action", g, x -> x.line(0, 0, false), OUTSIDE);
        refused("a 61st of no verb", g, x -> x.line(2, 1, false), UNKNOWN);
        due("told(8)", g.told(8), 60);
        due("the last line of verb 0", say(g, 50, 99), 158);
        due("told(2)", g.told(2), 58);
        due("told(4)", g.told(4), 30);
        due("the last line of verb 1", say(g, 51, 99), 159);
        due("told(2) of verb 1", g.told(2), 59);
        traced("the first of verb 1", g, 0, 1, 5, 1);
        traced("the last of verb 1", g, 29, 59, 0, NONE);
        traced("behind the last", g, 30, NONE, NONE, NONE);
    }

    private static void lastLineOfAll() {
        promise = "LINES, 60 at most, all of one VERB";
        GrammarLines g = new GrammarLines();
        g.verb(50);
        for (int i = 0; i < 60; i++) {
            g.line(0, 100 + i, false);
            g.token(i, 0, 70 + i);
        }
        due("the last", say(g, 50, 129), 159);
        due("all are tried", g.told(4), 60);
        traced("the last", g, 59, 59, 0, NONE);
        traced("behind the last", g, 60, NONE, NONE, NONE);
        error("none fits", g, say(g, 50, 130), 5, 1);
        due("the first of them", g.told(2), 0);
        due("all are tried again", g.told(4), 60);
        traced("the last of those", g, 59, 59, 5, 1);
    }

    private static void tokenOfWhichLine() {
        promise = "token: UNKNOWN";
        GrammarLines g = new GrammarLines();
        g.verb(50);
        g.line(0, 1, false);
        g.line(0, 2, false);
        for (int number : new int[] {LEAST, -2, -1, 2, 3, 60, MOST}) {
            refused("token(" + number + ", 2, 0)", g, x -> x.token(number, 2, 0), UNKNOWN);
        }
        due("token(0, 2, 0)", g.token(0, 2, 0), 1);
        due("token(1, 2, 0)", g.token(1, 2, 0), 1);
    }

    private static void tokenKinds() {
        promise = "OUTSIDE: kind 0 .. 11";
        GrammarLines g = oneLine();
        for (int bad : new int[] {LEAST, -2, -1, 12, 13, MOST}) {
            refused("token(0, " + bad + ", 10)", g, x -> x.token(0, bad, 10), OUTSIDE);
            refused("token(0, " + bad + ", 0)", g, x -> x.token(0, bad, 0), OUTSIDE);
        }
        due("the least kind", g.token(0, 0, 70), 1);
        due("the greatest kind", g.token(0, 11, 0), 2);
    }

    private static void tokenWords() {
        promise = "of: of 0 and 1 a word 10 .. 9999";
        GrammarLines g = oneLine();
        for (int bad : NO_PLAIN_WORDS) {
            refused("token(0, 0, " + bad + ")", g, x -> x.token(0, 0, bad), OUTSIDE);
            refused("token(0, 1, " + bad + ") at first", g, x -> x.token(0, 1, bad), OUTSIDE);
        }
        due("token(0, 0, 10)", g.token(0, 0, 10), 1);
        for (int bad : NO_PLAIN_WORDS) {
            refused("token(0, 1, " + bad + ")", g, x -> x.token(0, 1, bad), OUTSIDE);
        }
        due("token(0, 1, 9999)", g.token(0, 1, 9999), 2);
        due("token(0, 0, 9999)", g.token(0, 0, 9999), 3);
        due("token(0, 1, 10)", g.token(0, 1, 10), 4);
        due("the least words", say(g, 50, 10, 10), 1);
        due("the greatest words", say(g, 50, 9999, 9999), 1);
    }

    private static void tokenCustomNumbers() {
        promise = "of 11 0 .. 9";
        GrammarLines g = oneLine();
        for (int bad : new int[] {LEAST, -2, -1, 10, 11, 20, MOST}) {
            refused("token(0, 11, " + bad + ")", g, x -> x.token(0, 11, bad), OUTSIDE);
        }
        due("token(0, 11, 0)", g.token(0, 11, 0), 1);
        due("token(0, 11, 9)", g.token(0, 11, 9), 2);
        g.custom(0, 80, 5);
        g.custom(9, 80, 6);
        due("the least and the greatest", say(g, 50, 80, 80), 1);
        slot("the least", g, 0, 11, 5);
        slot("the greatest", g, 1, 11, 6);
    }

    private static void tokenOfDoesNotMatter() {
        promise = "of others it does not matter";
        for (int kind = 2; kind <= 10; kind++) {
            for (int of : new int[] {LEAST, -1, 0, 9, 10, 9999, 10000, MOST}) {
                GrammarLines g = oneLine();
                due("token(0, " + kind + ", " + of + ")", g.token(0, kind, of), 1);
            }
        }
        GrammarLines g = new GrammarLines();
        g.verb(50);
        g.line(0, 1, false);
        g.token(0, 9, 71);
        g.token(0, 0, 70);
        due("the topic's own 'of' is no word", say(g, 50, 90, 71, 70), 1);
        slot("the topic", g, 0, 9, 90, 71);
    }

    private static void tokenOneBehindWhat() {
        promise = "1 not behind 0 or 1";
        GrammarLines g = oneLine();
        refused("at first", g, x -> x.token(0, 1, 70), STATE);
        for (int kind = 2; kind <= 11; kind++) {
            GrammarLines behind = oneLine(kind);
            refused("behind " + kind, behind, x -> x.token(0, 1, 70), STATE);
            due("0 behind " + kind, behind.token(0, 0, 70), 2);
            due("1 behind that", behind.token(0, 1, 71), 3);
            due("1 behind 1", behind.token(0, 1, 72), 4);
        }
        g.line(0, 2, false);
        g.token(1, 0, 70);
        refused("another line's 0", g, x -> x.token(0, 1, 71), STATE);
    }

    private static void tokenSlots() {
        promise = "SLOTS, two at most in a LINE";
        for (int first = 2; first <= 11; first++) {
            for (int second = 2; second <= 11; second++) {
                GrammarLines g = oneLine(first, w(70), second, w(71));
                for (int third = 2; third <= 11; third++) {
                    int kind = third;
                    refused("a third, " + third, g, x -> x.token(0, kind, 0), STATE);
                }
                due("a word goes behind two slots", g.token(0, 0, 72), 5);
                due("another line has its own two", lineOf(g, 0, 2, false, first), 1);
                due("its second", g.token(1, 0, 70) + g.token(1, second, 0), 5);
            }
        }
    }

    private static void tokenBehindTopic() {
        promise = "Behind a TOPIC only 0 may come";
        for (int kind = 1; kind <= 11; kind++) {
            int next = kind;
            GrammarLines g = oneLine(9);
            refused("kind " + kind, g, x -> x.token(0, next, kind(next)), STATE);
            due("0", g.token(0, 0, 70), 2);
            due("kind " + kind + " behind the 0", g.token(0, next, kind(next)), 3);
            GrammarLines second = oneLine(2, 9);
            refused("kind " + kind + " behind a second slot", second, x -> x.token(0, next, kind(next)), STATE);
            due("0 behind a second slot", second.token(0, 0, 70), 3);
        }
    }

    /** An 'of' that may be, for any kind. */
    private static int kind(int kind) {
        return kind <= 1 ? 70 : 0;
    }

    private static void tokenRoom() {
        promise = "told by KINDS, 8 at most";
        for (int kind : new int[] {0, 1, 2, 9, 11}) {
            GrammarLines seven = oneLine(w(70), w(71), w(72), w(73), w(74), w(75), w(76));
            due("an eighth, " + kind, seven.token(0, kind, kind(kind)), 8);
            refused("a ninth", seven, x -> x.token(0, 0, 78), ROOM);
            refused("a ninth that is outside", seven, x -> x.token(0, 0, 9), OUTSIDE);
            int one = kind <= 1 ? ROOM : STATE;
            refused("a ninth of 1", seven, x -> x.token(0, 1, 78), one);
            int slot = kind == 9 ? STATE : ROOM;
            refused("a ninth, a slot", seven, x -> x.token(0, 2, 0), slot);
        }
        GrammarLines full = oneLine(2, 3, w(70), w(71), w(72), w(73), w(74), w(75));
        refused("a ninth, a third slot", full, x -> x.token(0, 5, 0), STATE);
        refused("a ninth, a word", full, x -> x.token(0, 0, 76), ROOM);
        due("a line behind a full one", full.line(0, 2, false), 1);
        due("its first kind", full.token(1, 0, 79), 1);
        thingOf(full, 1, 20);
        thingOf(full, 2, 21);
        due("a full line fits", say(full, 50, 20, 21, 70, 71, 72, 73, 74, 75), 1);
        error("one word more", full, say(full, 50, 20, 21, 70, 71, 72, 73, 74, 75, 76), 6, 9);
        error("one word less", full, say(full, 50, 20, 21, 70, 71, 72, 73, 74), 5, 8);
    }

    private static void oneTokenWithEightWords() {
        promise = "all of these are one TOKEN with several words";
        GrammarLines g = oneLine(w(70), or(71), or(72), or(73), or(74), or(75), or(76), or(77));
        for (int word = 70; word <= 77; word++) {
            due("word " + word, say(g, 50, word), 1);
        }
        error("the word below", g, say(g, 50, 69), 5, 1);
        error("the word above", g, say(g, 50, 78), 5, 1);
        error("two of them", g, say(g, 50, 70, 71), 6, 2);
        refused("a ninth", g, x -> x.token(0, 1, 78), ROOM);
        g.line(0, 2, false);
        g.token(1, 0, 79);
        error("the next line's word is not this one's", g, say(g, 50, 78), 5, 1);
        due("the next line's word", say(g, 50, 79), 2);
    }

    private static void linesHaveTheirOwnTokens() {
        promise = "TOKENS in their order, of each LINE";
        GrammarLines g = new GrammarLines();
        g.verb(50);
        for (int i = 0; i < 60; i++) {
            g.line(0, 1 + i, false);
        }
        for (int k = 0; k < 8; k++) {
            due("kind " + k + " of line 0", g.token(0, 0, 100 + k), k + 1);
            due("kind " + k + " of line 59", g.token(59, 0, 200 + k), k + 1);
        }
        due("line 1 has none", g.token(1, 0, 300), 1);
        due("line 58 has none", g.token(58, 0, 301), 1);
        due("line 0 in its order", say(g, 50, 100, 101, 102, 103, 104, 105, 106, 107), 1);
        due("line 59 in its order", say(g, 50, 200, 201, 202, 203, 204, 205, 206, 207), 60);
        due("line 58", say(g, 50, 301), 59);
        due("line 1", say(g, 50, 300), 2);
    }

    /** The 60th line with its eighth kind: nothing is behind it. */
    private static void lastKindOfTheLastLine() {
        promise = "LINES, 60 at most, with KINDS, 8 at most: the last of the last";
        GrammarLines words = lastLine(w(70), w(71), w(72), w(73), w(74), w(75), w(76), w(77));
        due("a word", say(words, 50, 70, 71, 72, 73, 74, 75, 76, 77), 60);
        error("another word", words, say(words, 50, 70, 71, 72, 73, 74, 75, 76, 78), 5, 8);
        error("no word", words, say(words, 50, 70, 71, 72, 73, 74, 75, 76), 5, 8);
        error("a word more", words, say(words, 50, 70, 71, 72, 73, 74, 75, 76, 77, 78), 6, 9);
        GrammarLines others = lastLine(w(70), or(71), or(72), or(73), or(74), or(75), or(76), or(77));
        due("the last of the words that may stand there", say(others, 50, 77), 60);
        error("none of the words", others, say(others, 50, 78), 5, 1);
        GrammarLines topic = lastLine(w(70), w(71), w(72), w(73), w(74), w(75), w(76), 9);
        due("a topic", say(topic, 50, 70, 71, 72, 73, 74, 75, 76, 70, 77), 60);
        slot("a topic", topic, 0, 9, 70, 77);
        error("no topic", topic, say(topic, 50, 70, 71, 72, 73, 74, 75, 76), 16, 8);
        asked("no topic", topic, 16, 9);
        GrammarLines filled = lastLine(w(70), w(71), w(72), w(73), w(74), w(75), w(76), 2);
        thingOf(filled, 1, 20);
        due("a thing", say(filled, 50, 70, 71, 72, 73, 74, 75, 76, 20), 60);
        due("all is filled", say(filled, 50), 60);
        filled("all is filled", filled, 70, 71, 72, 73, 74, 75, 76, 20000);
    }

    /** A verb 50 with the 60th line, of action 60; the other lines are of another verb. */
    private static GrammarLines lastLine(int... kinds) {
        GrammarLines g = new GrammarLines();
        g.verb(50);
        g.verb(51);
        for (int i = 1; i < 60; i++) {
            g.line(1, i, false);
        }
        lineOf(g, 0, 60, false, kinds);
        return g;
    }

    // ---- things: promises 6 to 8 ----

    private static void thingFlags() {
        promise = "OUTSIDE: flags 0 .. 15: thing";
        GrammarLines g = new GrammarLines();
        for (int bad : new int[] {LEAST, -16, -2, -1, 16, 17, 31, 32, MOST}) {
            refused("thing(" + bad + ")", g, x -> x.thing(bad), OUTSIDE);
        }
        for (int flags = 0; flags <= 15; flags++) {
            due("thing(" + flags + ")", g.thing(flags), flags);
            due("its flags are " + flags, g.flags(flags, flags), flags);
        }
    }

    private static void thingRoom() {
        promise = "THINGS, 40 at most, numbered from 0 on";
        GrammarLines g = oneLine(6);
        error("all of no thing", g, say(g, 50, ALL), 14, 1);
        for (int i = 0; i < 40; i++) {
            due("thing " + i, g.thing(1), i);
            g.name(i, 20);
        }
        refused("a 41st", g, x -> x.thing(1), ROOM);
        refused("a 41st with no flags", g, x -> x.thing(16), OUTSIDE);
        due("told(9)", g.told(9), 40);
        due("all of them", say(g, 50, ALL), 1);
        due("how many", g.object(0, -1), 40);
        for (int i = 0; i < 40; i++) {
            due("object(0, " + i + ")", g.object(0, i), i);
        }
        due("behind the last", g.object(0, 40), NONE);
        error("which of 40", g, say(g, 50, 20), 15, 1);
        for (int i = 0; i < 40; i++) {
            due("asked(" + i + ")", g.asked(i), i);
        }
        due("asked(40)", g.asked(40), NONE);
        g.name(39, 21);
        due("the last", g.answer(21), 1);
        slot("the last", g, 0, 6, 39);
    }

    private static void nameOfWhichThing() {
        promise = "name: UNKNOWN";
        GrammarLines g = new GrammarLines();
        g.thing(1);
        g.thing(1);
        for (int number : new int[] {LEAST, -2, -1, 2, 3, 39, 40, MOST}) {
            refused("name(" + number + ", 20)", g, x -> x.name(number, 20), UNKNOWN);
        }
        due("name(0, 20)", g.name(0, 20), 1);
        due("name(1, 20)", g.name(1, 20), 1);
    }

    private static void nameWords() {
        promise = "NAMES: 4 words of 10 .. 9999";
        GrammarLines g = oneLine(2);
        g.thing(1);
        for (int bad : NO_PLAIN_WORDS) {
            refused("name(0, " + bad + ")", g, x -> x.name(0, bad), OUTSIDE);
        }
        due("name(0, 10)", g.name(0, 10), 1);
        due("name(0, 9999)", g.name(0, 9999), 2);
        due("the least", say(g, 50, 10), 1);
        due("the greatest", say(g, 50, 9999), 1);
        due("both", say(g, 50, 9999, 10), 1);
    }

    private static void nameRoom() {
        promise = "NAMES: 4 words at most (one that it has already counts once)";
        GrammarLines g = oneLine(2);
        g.thing(1);
        g.thing(1);
        for (int i = 1; i <= 4; i++) {
            due("name " + i, g.name(0, 20 + i), i);
            due("name " + i + " again", g.name(0, 20 + i), i);
            due("the first again", g.name(0, 21), i);
        }
        refused("a fifth", g, x -> x.name(0, 25), ROOM);
        refused("a fifth that is none", g, x -> x.name(0, 10000), OUTSIDE);
        for (int i = 1; i <= 4; i++) {
            int word = 20 + i;
            due("name " + i + " of four again", g.name(0, word), 4);
        }
        due("another thing has its own", g.name(1, 25), 1);
        due("all four", say(g, 50, 24, 23, 22, 21), 1);
        slot("all four", g, 0, 2, 0);
        due("the refused is the other's", say(g, 50, 25), 1);
        slot("the refused is the other's", g, 0, 2, 1);
    }

    private static void fullNamesStayTheirOwn() {
        promise = "NAMES of the first and the last of 40 things";
        GrammarLines g = oneLine(2);
        for (int i = 0; i < 40; i++) {
            g.thing(1);
            for (int k = 0; k < 4; k++) {
                due("name " + k + " of " + i, g.name(i, 100 + 4 * i + k), k + 1);
            }
            refused("a fifth of " + i, g, x -> x.name(x.told(9) - 1, 99), ROOM);
        }
        for (int i = 0; i < 40; i += 13) {
            for (int k = 0; k < 4; k++) {
                due("say name " + k + " of " + i, say(g, 50, 100 + 4 * i + k), 1);
                due("it is " + i, g.object(0, 0), i);
            }
        }
    }

    private static void flagsOfWhichThing() {
        promise = "flags: UNKNOWN";
        GrammarLines g = new GrammarLines();
        g.thing(1);
        g.thing(2);
        for (int number : new int[] {LEAST, -2, -1, 2, 3, 39, 40, MOST}) {
            refused("flags(" + number + ", 4)", g, x -> x.flags(number, 4), UNKNOWN);
        }
        due("flags(0, 4)", g.flags(0, 4), 1);
        due("flags(1, 4)", g.flags(1, 4), 2);
    }

    private static void flagsBounds() {
        promise = "The FLAGS of a thing are others: what they were";
        GrammarLines g = new GrammarLines();
        g.thing(15);
        for (int bad : new int[] {LEAST, -16, -2, -1, 16, 17, 32, MOST}) {
            refused("flags(0, " + bad + ")", g, x -> x.flags(0, bad), OUTSIDE);
        }
        int were = 15;
        for (int flags = 0; flags <= 15; flags++) {
            due("flags(0, " + flags + ")", g.flags(0, flags), were);
            due("the same again", g.flags(0, flags), flags);
            were = flags;
        }
    }

    private static void flagsOfFirstAndLast() {
        promise = "The FLAGS of the first and the last of 40 things";
        GrammarLines g = oneLine(7);
        for (int i = 0; i < 40; i++) {
            g.thing(0);
        }
        error("none is held", g, say(g, 50, ALL), 14, 1);
        g.flags(39, 2);
        due("the last is held", say(g, 50, ALL), 1);
        slot("the last is held", g, 0, 7, 39);
        g.flags(0, 2);
        g.flags(39, 0);
        due("the first is held", say(g, 50, ALL), 1);
        slot("the first is held", g, 0, 7, 0);
        due("the first was", g.flags(0, 0), 2);
        due("the last was", g.flags(39, 0), 0);
    }

    // ---- customs: promise 9 ----

    private static void customNumbers() {
        promise = "OUTSIDE: c 0 .. 9";
        GrammarLines g = new GrammarLines();
        for (int bad : new int[] {LEAST, -2, -1, 10, 11, MOST}) {
            refused("custom(" + bad + ", 20, 1)", g, x -> x.custom(bad, 20, 1), OUTSIDE);
        }
        for (int c = 0; c <= 9; c++) {
            due("custom(" + c + ", 20, 1)", g.custom(c, 20, 1), c + 1);
        }
    }

    private static void customWords() {
        promise = "a VALUE for some words (10 .. 19999)";
        GrammarLines g = oneLine(custom(0));
        for (int bad : BELOW_WORDS) {
            refused("custom(0, " + bad + ", 1)", g, x -> x.custom(0, bad, 1), OUTSIDE);
        }
        for (int bad : new int[] {20000, 20001, MOST}) {
            refused("custom(0, " + bad + ", 1)", g, x -> x.custom(0, bad, 1), OUTSIDE);
        }
        int pairs = 0;
        for (int word : new int[] {10, 9999, 10000, 19999}) {
            pairs++;
            due("custom(0, " + word + ", ..)", g.custom(0, word, 100 + pairs), pairs);
            due("say " + word, say(g, 50, word), 1);
            slot("say " + word, g, 0, 11, 100 + pairs);
        }
        for (int word : new int[] {4, 7, 11, 9998, 10001, 19998}) {
            error("the next to it, " + word, g, say(g, 50, word), 9, 1);
        }
    }

    private static void customValues() {
        promise = "a VALUE (0 .. 9999)";
        GrammarLines g = oneLine(custom(0));
        for (int bad : new int[] {LEAST, -2, -1, 10000, 10001, MOST}) {
            refused("custom(0, 20, " + bad + ")", g, x -> x.custom(0, 20, bad), OUTSIDE);
        }
        error("none yet", g, say(g, 50, 20), 9, 1);
        for (int value : new int[] {0, 1, 9998, 9999}) {
            due("custom(0, 20, " + value + ")", g.custom(0, 20, value), 1);
            due("say it", say(g, 50, 20), 1);
            slot("the value", g, 0, 11, value);
        }
    }

    private static void customRoom() {
        promise = "40 pairs at most in all";
        GrammarLines g = oneLine(custom(9));
        for (int i = 0; i < 40; i++) {
            due("pair " + i, g.custom(i % 10, 20 + i / 10, i), i + 1);
        }
        refused("a 41st, another word", g, x -> x.custom(9, 24, 1), ROOM);
        refused("a 41st, a new word", g, x -> x.custom(0, 9999, 1), ROOM);
        refused("a 41st, no value", g, x -> x.custom(0, 9999, 10000), OUTSIDE);
        refused("a 41st, no number", g, x -> x.custom(10, 9999, 1), OUTSIDE);
        due("told(10)", g.told(10), 40);
        error("what was refused", g, say(g, 50, 24), 9, 1);
        due("the last pair", say(g, 50, 23), 1);
        slot("the last pair", g, 0, 11, 39);
    }

    private static void customInPlaceOfOne() {
        promise = "in place of one: how many pairs there are";
        GrammarLines g = oneLine(custom(2), custom(3));
        due("the first", g.custom(2, 80, 1), 1);
        due("of another number", g.custom(3, 80, 2), 2);
        due("of another word", g.custom(2, 81, 3), 3);
        due("in place", g.custom(2, 80, 0), 3);
        due("in place by 0, in place again", g.custom(2, 80, 4), 3);
        due("say them", say(g, 50, 80, 80), 1);
        slot("in place", g, 0, 11, 4);
        slot("of another number", g, 1, 11, 2);
        for (int i = 3; i < 40; i++) {
            g.custom(9, 100 + i, 1);
        }
        due("in place, all room taken", g.custom(9, 139, 5), 40);
        due("in place of the first, all room taken", g.custom(2, 80, 6), 40);
        due("say them again", say(g, 50, 80, 80), 1);
        slot("in place, all room taken", g, 0, 11, 6);
    }

    // ---- what is refused ----

    private static void firstReasonOfSeveral() {
        promise = "UNKNOWN, OUTSIDE, STATE, ROOM: of several the first one here";
        GrammarLines g = allRoomTaken();
        refused("like: all three", g, x -> x.like(20, 9), UNKNOWN);
        refused("like: unknown and room", g, x -> x.like(20, 999), UNKNOWN);
        refused("like: outside and room", g, x -> x.like(0, 9), OUTSIDE);
        refused("like: room", g, x -> x.like(0, 999), ROOM);
        refused("verb: outside and room", g, x -> x.verb(100), OUTSIDE);
        refused("verb: room", g, x -> x.verb(999), ROOM);
        refused("line: all three", g, x -> x.line(-1, 0, false), UNKNOWN);
        refused("line: unknown and room", g, x -> x.line(20, 1, false), UNKNOWN);
        refused("line: outside and room", g, x -> x.line(0, 0, false), OUTSIDE);
        refused("line: room", g, x -> x.line(0, 1, false), ROOM);
        refused("token: unknown and outside", g, x -> x.token(60, 12, 0), UNKNOWN);
        refused("token: outside, state and room", g, x -> x.token(0, 1, 9), OUTSIDE);
        refused("token: outside, third slot and room", g, x -> x.token(0, 11, 10), OUTSIDE);
        refused("token: outside and room", g, x -> x.token(0, 0, 9), OUTSIDE);
        refused("token: state and room", g, x -> x.token(0, 2, 0), STATE);
        refused("token: room", g, x -> x.token(0, 0, 70), ROOM);
        refused("thing: outside and room", g, x -> x.thing(16), OUTSIDE);
        refused("thing: room", g, x -> x.thing(0), ROOM);
        refused("name: unknown and outside", g, x -> x.name(40, 9), UNKNOWN);
        refused("name: outside and room", g, x -> x.name(0, 9), OUTSIDE);
        refused("name: room", g, x -> x.name(0, 999), ROOM);
        refused("flags: unknown and outside", g, x -> x.flags(40, 16), UNKNOWN);
        refused("flags: outside", g, x -> x.flags(0, 16), OUTSIDE);
        refused("custom: outside and room", g, x -> x.custom(0, 9, 0), OUTSIDE);
        refused("custom: room", g, x -> x.custom(0, 999, 0), ROOM);
        refused("word: outside and room", g, x -> x.word(9), OUTSIDE);
        refused("word: room", g, x -> x.word(10), ROOM);
        refused("answer: outside and state", g, x -> x.answer(9), OUTSIDE);
        refused("answer: state", g, x -> x.answer(10), STATE);
    }

    /** 20 verbs with 60 words, 60 lines, line 0 with 8 kinds and two slots, 40 things, thing 0 with 4 names, 40 pairs, 60 words. */
    private static GrammarLines allRoomTaken() {
        GrammarLines g = new GrammarLines();
        for (int i = 0; i < 20; i++) {
            g.verb(100 + i);
        }
        for (int i = 20; i < 60; i++) {
            g.like(i - 20 < 20 ? i - 20 : 0, 100 + i);
        }
        for (int i = 0; i < 60; i++) {
            g.line(i / 3, 1 + i, false);
        }
        for (int kind : new int[] {2, 9, 0, 0, 0, 0, 0, 0}) {
            g.token(0, kind, 70);
        }
        for (int i = 0; i < 40; i++) {
            g.thing(1);
            g.custom(0, 10 + i, 1);
        }
        for (int i = 0; i < 4; i++) {
            g.name(0, 20 + i);
        }
        for (int i = 0; i < 60; i++) {
            g.word(200);
        }
        return g;
    }

    private static void refusedCallsChangeNothing() {
        promise = "Calls that refuse change nothing";
        GrammarLines told = furnished(2);
        told.verb(60);
        told.custom(0, 80, 7);
        GrammarLines action = told;
        due("an action", say(action, 23, COMMA, 50, 21, THEN, 50, 20), 1);
        refuseAll("behind an action", action);
        due("it goes on", action.parse(), 0);
        refuseAll("while it is asked", action);
        due("it is asked still", action.answer(30), 1);
        refuseAll("behind an answer", action);
        error("an error", action, say(action, 50, 99), 7, 1);
        refuseAll("behind an error", action);
        due("OOPS still mends it", say(action, OOPS, 21), 1);
        due("AGAIN still has it", say(action, AGAIN), 1);
        command("AGAIN still has it", action, 50, 21);
    }

    private static void refuseAll(String when, GrammarLines g) {
        refusedAs(when + ", verb", g, OUTSIDE, x -> x.verb(50), x -> x.verb(9), x -> x.verb(10000));
        refusedAs(when + ", like", g, UNKNOWN, x -> x.like(-1, 61), x -> x.like(2, 61));
        refusedAs(when + ", like", g, OUTSIDE, x -> x.like(0, 60), x -> x.like(1, 9), x -> x.like(0, 10000));
        refusedAs(when + ", line", g, UNKNOWN, x -> x.line(-1, 1, true), x -> x.line(2, 1, true));
        refusedAs(when + ", line", g, OUTSIDE, x -> x.line(0, 0, true), x -> x.line(0, 10000, true));
        refusedAs(when + ", token", g, UNKNOWN, x -> x.token(-1, 2, 0), x -> x.token(1, 2, 0));
        refusedAs(when + ", token", g, OUTSIDE, x -> x.token(0, 12, 0), x -> x.token(0, 0, 9), x -> x.token(0, 11, 10));
        refusedAs(when + ", token", g, STATE, x -> x.token(0, 1, 70));
        refusedAs(when + ", thing", g, OUTSIDE, x -> x.thing(-1), x -> x.thing(16));
        refusedAs(when + ", name", g, UNKNOWN, x -> x.name(-1, 99), x -> x.name(6, 99));
        refusedAs(when + ", name", g, OUTSIDE, x -> x.name(0, 9), x -> x.name(0, 10000));
        refusedAs(when + ", flags", g, UNKNOWN, x -> x.flags(-1, 0), x -> x.flags(6, 0));
        refusedAs(when + ", flags", g, OUTSIDE, x -> x.flags(0, -1), x -> x.flags(0, 16));
        refusedAs(when + ", custom", g, OUTSIDE, x -> x.custom(10, 80, 1), x -> x.custom(0, 9, 1), x -> x.custom(0, 80, -1));
        refusedAs(when + ", word", g, OUTSIDE, x -> x.word(0), x -> x.word(8), x -> x.word(20000));
        refusedAs(when + ", answer", g, OUTSIDE, x -> x.answer(0), x -> x.answer(8), x -> x.answer(20000));
        if (g.asked(-1) == 0) {
            refusedAs(when + ", answer", g, STATE, x -> x.answer(50), x -> x.answer(20), x -> x.answer(1));
        }
    }

    @SafeVarargs
    private static void refusedAs(String what, GrammarLines g, int want, ToIntFunction<GrammarLines>... calls) {
        for (int i = 0; i < calls.length; i++) {
            refused(what + " " + i, g, calls[i], want);
        }
    }

    private static void refusedGrammarIsNotTried() {
        promise = "Calls that refuse change nothing: what is tried later";
        GrammarLines g = furnished(2, w(70), 3);
        g.like(0, 9);
        g.like(1, 51);
        g.line(0, 0, false);
        g.line(1, 5, false);
        g.token(0, 1, 71);
        g.token(0, 5, 0);
        g.token(0, 0, 9);
        g.token(0, 12, 71);
        g.name(0, 10000);
        g.flags(0, 16);
        g.custom(0, 20, 10000);
        due("the line is as it was", say(g, 50, 20, 30, 70, 21), 1);
        due("one line is tried", g.told(4), 1);
        error("no word came to it", g, say(g, 50, 20, 30, 71, 21), 5, 3);
        error("no word came to the verb", g, say(g, 51), 2, 0);
        due("the flags are as they were", g.flags(0, 1), 1);
        due("the names are as they were", g.name(0, 32), 3);
        due("no pair came", g.custom(0, 21, 1), 1);
    }
}
