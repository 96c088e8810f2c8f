import java.util.function.ToIntFunction;

/**
 * The boundary cases of part 3: what is taken of INPUT, orders, AGAIN, OOPS, what an error takes away, what an answer
 * comes to, and how long it is asked.
 */
public final class TakingTest extends Checks {
    public static void main(String[] args) {
        orderOfOneCreature();
        orderNeedsItsPhraseAtPlaceNought();
        orderNeedsJustOneThing();
        orderNeedsACreatureInScope();
        orderNeedsComma();
        orderNeedsAWordBehind();
        orderTakesPhraseAndCommaOff();
        orderIsTakenOnce();
        orderOfSixtyWords();
        orderWithoutWords();
        commandUpToThen();
        commandUpToJoinAndVerb();
        commandUpToTheEnd();
        commandUpToTheFirstOfThem();
        commandOfSixtyWords();
        noWords();
        noLineIsTriedOfBareErrors();
        againOfNone();
        againAlone();
        againOfWhatHadAnAction();
        againOfSixtyWords();
        againGoesToWhomItWent();
        againIsTriedAnew();
        oopsOfNone();
        oopsOfEachError();
        oopsOfTheErrorsWithoutPlace();
        oopsAtTheLastWord();
        oopsBehindTheLastWord();
        oopsAndOneWordNoMore();
        oopsOfOops();
        oopsOfAnAnswer();
        oopsGoesToWhomItWent();
        oopsWithAnyWord();
        oopsAfterOtherCalls();
        errorsTakeInputAway();
        askedAndActionsLeaveInput();
        answerOfAVerb();
        answerOfAVerbWhenAllIsFull();
        answerBehindThePhrase();
        answerBehindAll();
        answerWithToldWords();
        answerIsOneWordOfAnySort();
        answerGoesToTheSame();
        answerRoomOfWhich();
        answerRoomOfWhat();
        answerUpToSixtyWords();
        askedTillTheNext();
        askedNothing();
        end();
    }

    // ---- orders ----

    private static void to(String what, GrammarLines g, int whom, int... words) {
        due(what + ", told(3)", g.told(3), whom);
        command(what, g, words);
    }

    private static void orderOfOneCreature() {
        promise = "a PHRASE with just one of ITS THINGS, which is a CREATURE, and COMMA is behind, and a word behind that";
        for (int flags = 0; flags <= 15; flags++) {
            GrammarLines g = oneLine();
            thingOf(g, flags, 20);
            boolean goes = flags >= 8 && flags != 8;
            due("flags " + flags, say(g, 20, COMMA, 50), goes ? 1 : -2);
            due("to whom, flags " + flags, g.told(3), goes ? 0 : NONE);
        }
        GrammarLines last = oneLine();
        for (int i = 0; i < 40; i++) {
            thingOf(last, 9, 100 + i);
        }
        due("the first of 40", say(last, 100, COMMA, 50), 1);
        to("the first of 40", last, 0, 50);
        due("the last of 40", say(last, 139, COMMA, 50), 1);
        to("the last of 40", last, 39, 50);
    }

    private static void orderNeedsItsPhraseAtPlaceNought() {
        promise = "AN ORDER: if at its place 0 there is a PHRASE";
        GrammarLines g = furnished();
        error("a word of none at first", g, say(g, 99, 23, COMMA, 50), 2, 0);
        to("a word of none at first", g, NONE, 99, 23);
        error("COMMA at first", g, say(g, COMMA, 23, COMMA, 50), 2, 0);
        to("COMMA at first", g, NONE, COMMA, 23);
        error("no words at all", g, g.parse(), 1, NONE);
        to("no words at all", g, NONE);
    }

    private static void orderNeedsJustOneThing() {
        promise = "with just one of ITS THINGS";
        GrammarLines g = oneLine();
        thingOf(g, 9, 20, 21);
        thingOf(g, 9, 20, 22);
        error("two creatures", g, say(g, 20, COMMA, 50), 2, 0);
        to("two creatures", g, NONE, 20);
        due("one of two", say(g, 20, 22, COMMA, 50), 1);
        to("one of two", g, 1, 50);
        g.flags(0, 8);
        due("the other is far", say(g, 20, COMMA, 50), 1);
        to("the other is far", g, 1, 50);
    }

    private static void orderNeedsACreatureInScope() {
        promise = "which is a CREATURE";
        GrammarLines g = furnished();
        for (int word : new int[] {21, 22, 30}) {
            error("thing " + word, g, say(g, word, COMMA, 50), 2, 0);
            to("thing " + word, g, NONE, word);
        }
        g.flags(4, 8);
        error("a far creature", g, say(g, 23, COMMA, 50), 2, 0);
        to("a far creature", g, NONE, 23);
        g.flags(4, 12);
        due("a worn creature", say(g, 23, COMMA, 50), 1);
        to("a worn creature", g, 4, 50);
    }

    private static void orderNeedsComma() {
        promise = "and COMMA is behind";
        GrammarLines g = furnished();
        error("AND is behind", g, say(g, 23, AND, 50), 2, 0);
        to("AND is behind", g, NONE, 23);
        error("THEN is behind", g, say(g, 23, THEN, 50), 2, 0);
        to("THEN is behind", g, NONE, 23);
        error("the verb is behind", g, say(g, 23, 50), 2, 0);
        to("the verb is behind", g, NONE, 23, 50);
        error("nothing is behind", g, say(g, 23), 2, 0);
        to("nothing is behind", g, NONE, 23);
        error("a word between", g, say(g, 23, 99, COMMA, 50), 2, 0);
        to("a word between", g, NONE, 23, 99);
    }

    private static void orderNeedsAWordBehind() {
        promise = "and a word behind that";
        GrammarLines g = furnished();
        error("none", g, say(g, 23, COMMA), 2, 0);
        to("none", g, NONE, 23, COMMA);
        error("a word of none", g, say(g, 23, COMMA, 99), 2, 0);
        to("a word of none", g, 4, 99);
        error("COMMA", g, say(g, 23, COMMA, COMMA), 2, 0);
        to("COMMA", g, 4, COMMA);
    }

    private static void orderTakesPhraseAndCommaOff() {
        promise = "the PHRASE and COMMA are taken off";
        GrammarLines g = oneLine(9);
        thingOf(g, 9, 20, 21, 22, 23);
        due("four words", say(g, 20, 21, 22, 23, COMMA, 50, 20, COMMA, 90), 1);
        to("four words", g, 0, 50, 20, COMMA, 90);
        input("four words", g);
        due("a word of a verb behind COMMA", say(g, 20, COMMA, 50, 90, COMMA, 50, 91), 1);
        to("a word of a verb behind COMMA", g, 0, 50, 90);
        input("a word of a verb behind COMMA", g, 50, 91);
        due("else it goes to NONE", g.parse(), 1);
        to("else it goes to NONE", g, NONE, 50, 91);
        due("an order in a chain", say(g, 50, 90, THEN, 20, COMMA, 50, 91), 1);
        to("the first of a chain", g, NONE, 50, 90);
        due("the second of a chain", g.parse(), 1);
        to("the second of a chain", g, 0, 50, 91);
    }

    private static void orderIsTakenOnce() {
        promise = "AN ORDER is taken, then THE COMMAND";
        GrammarLines g = furnished();
        error("an order twice", g, say(g, 23, COMMA, 23, COMMA, 50), 2, 0);
        to("an order twice", g, 4, 23);
        input("its rest is taken away", g);
    }

    private static void orderOfSixtyWords() {
        promise = "AN ORDER: as long as INPUT can be";
        GrammarLines g = oneLine();
        thingOf(g, 9, 20);
        int[] words = longRow(60, 20);
        words[58] = COMMA;
        words[59] = 50;
        due("58 words, COMMA and a word", say(g, words), 1);
        to("58 words, COMMA and a word", g, 0, 50);
        words[58] = 20;
        words[59] = COMMA;
        error("59 words and COMMA", g, say(g, words), 2, 0);
        due("to none", g.told(3), NONE);
        due("all 60 are the command", g.told(6), 60);
        GrammarLines topic = oneLine(9);
        thingOf(topic, 9, 20);
        due("a long command", say(topic, longRow(60, 90, 20, COMMA, 50)), 1);
        due("58 words of it", topic.told(6), 58);
        due("57 of the topic", topic.object(0, -1), 57);
        due("it goes to", topic.told(3), 0);
    }

    private static void orderWithoutWords() {
        promise = "Without words: ERROR 1, behind an order";
        GrammarLines g = furnished();
        error("THEN behind", g, say(g, 23, COMMA, THEN, 50), 1, NONE);
        to("THEN behind", g, 4);
        input("THEN behind", g);
        error("COMMA and a verb behind", g, say(g, 23, COMMA, COMMA, 50), 1, NONE);
        to("COMMA and a verb behind", g, 4);
    }

    // ---- the command ----

    private static void commandUpToThen() {
        promise = "THE COMMAND is all up to the first THEN; that one is taken off, too";
        GrammarLines g = oneLine(9);
        due("THEN in the middle", say(g, 50, 90, THEN, 91, 92), 1);
        command("THEN in the middle", g, 50, 90);
        input("THEN in the middle", g, 91, 92);
        g.clear();
        due("THEN at the end", say(g, 50, 90, THEN), 1);
        command("THEN at the end", g, 50, 90);
        input("THEN at the end", g);
        due("THEN twice", say(g, 50, 90, THEN, THEN, 50), 1);
        input("THEN twice", g, THEN, 50);
        error("THEN at first", g, g.parse(), 1, NONE);
        command("THEN at first", g);
        input("THEN at first", g);
        error("THEN alone", g, say(g, THEN), 1, NONE);
        command("THEN alone", g);
    }

    private static void commandUpToJoinAndVerb() {
        promise = "or the first AND or COMMA with a word of a VERB right behind it";
        GrammarLines g = oneLine(9);
        g.like(0, 51);
        g.verb(52);
        for (int join : new int[] {AND, COMMA}) {
            for (int verb = 50; verb <= 52; verb++) {
                due("word " + verb + " behind", say(g, 50, 90, join, verb, 91), 1);
                command("word " + verb + " behind", g, 50, 90);
                input("word " + verb + " behind", g, verb, 91);
                g.clear();
            }
            due("another word behind", say(g, 50, 90, join, 53), 1);
            command("another word behind", g, 50, 90, join, 53);
            due("not right behind", say(g, 50, 90, join, 91, 50), 1);
            command("not right behind", g, 50, 90, join, 91, 50);
            due("nothing behind", say(g, 50, 90, join), 1);
            command("nothing behind", g, 50, 90, join);
            due("a join behind", say(g, 50, 90, join, COMMA, 50), 1);
            command("a join behind", g, 50, 90, join);
            input("a join behind", g, 50);
            g.clear();
            error("at first", g, say(g, join, 50), 1, NONE);
            command("at first", g);
            input("at first", g);
        }
        due("a verb's word without a join", say(g, 50, 90, 50, 91), 1);
        command("a verb's word without a join", g, 50, 90, 50, 91);
        due("BUT is no join", say(g, 50, 90, BUT, 50, 91), 1);
        command("BUT is no join", g, 50, 90, BUT, 50, 91);
    }

    private static void commandUpToTheEnd() {
        promise = "or the end";
        GrammarLines g = oneLine(9);
        due("the end", say(g, 50, 90), 1);
        command("the end", g, 50, 90);
        input("the end", g);
        error("behind the end", g, g.parse(), 1, NONE);
    }

    private static void commandUpToTheFirstOfThem() {
        promise = "up to the first of them";
        GrammarLines g = oneLine(9);
        due("AND ahead of THEN", say(g, 50, 90, AND, 50, 91, THEN, 50, 92), 1);
        input("AND ahead of THEN", g, 50, 91, THEN, 50, 92);
        due("THEN ahead of COMMA", say(g, COMMA, 50, 93), 1);
        input("THEN ahead of COMMA", g, 50, 92, COMMA, 50, 93);
        due("COMMA", g.parse(), 1);
        due("the last", g.parse(), 1);
        command("the last", g, 50, 93);
        due("THEN right behind AND", say(g, 50, 90, AND, THEN, 50), 1);
        command("THEN right behind AND", g, 50, 90, AND);
    }

    private static void commandOfSixtyWords() {
        promise = "THE COMMAND: as long as INPUT can be";
        GrammarLines g = oneLine(9);
        int[] words = longRow(60, 90, 50);
        words[59] = THEN;
        due("THEN is word 59", say(g, words), 1);
        due("59 words", g.told(6), 59);
        input("THEN is word 59", g);
        words[58] = AND;
        words[59] = 50;
        due("a verb is word 59", say(g, words), 1);
        due("58 words", g.told(6), 58);
        input("a verb is word 59", g, 50);
        g.clear();
        words[58] = 90;
        words[59] = AND;
        due("AND is word 59", say(g, words), 1);
        due("60 words", g.told(6), 60);
        GrammarLines chain = oneLine();
        for (int i = 0; i < 60; i++) {
            chain.word(i % 2 == 0 ? 50 : THEN);
        }
        for (int i = 0; i < 30; i++) {
            due("command " + i + " of 30", chain.parse(), 1);
            due("what stays of 30", chain.told(5), 58 - 2 * i);
        }
        error("behind the 30th", chain, chain.parse(), 1, NONE);
    }

    // ---- errors 1, 3, 4 ----

    private static void noWords() {
        promise = "Without words: ERROR 1";
        GrammarLines g = new GrammarLines();
        error("a new object", g, g.parse(), 1, NONE);
        error("once more", g, g.parse(), 1, NONE);
        GrammarLines used = furnished(2);
        due("an action", say(used, 50, 21), 1);
        error("behind an action", used, used.parse(), 1, NONE);
        command("the action's command is gone", used);
        noSlot("its things are gone", used, 0);
        due("its line is gone", used.told(2), NONE);
        error("which", used, say(used, 50, 20), 15, 1);
        error("behind what is asked", used, used.parse(), 1, NONE);
        asked("nothing is asked then", used, 0);
    }

    private static void noLineIsTriedOfBareErrors() {
        promise = "Of ERRORS 1, 3, 4 no LINE is TRIED, the COMMAND is what was taken, and PLACE is NONE";
        int[][] taken = {{}, {AGAIN}, {OOPS, 21}};
        int[] errors = {1, 3, 4};
        for (int i = 0; i < 3; i++) {
            GrammarLines g = furnished(2);
            error("an error of a line", g, say(g, 50), 16, 1);
            due("a line was tried", g.told(4), 1);
            error("error " + errors[i], g, say(g, taken[i]), errors[i], NONE);
            command("error " + errors[i], g, taken[i]);
            due("lines tried", g.told(4), 0);
            due("of no line", g.told(2), NONE);
            due("to none", g.told(3), NONE);
            traced("error " + errors[i], g, 0, NONE, NONE, NONE);
            asked("error " + errors[i], g, 0);
        }
    }

    private static void againOfNone() {
        promise = "AGAIN alone: ERROR 3, if there was none";
        GrammarLines g = furnished(2);
        error("a new object", g, say(g, AGAIN), 3, NONE);
        error("an error", g, say(g, 50, 99), 7, 1);
        error("behind an error", g, say(g, AGAIN), 3, NONE);
        error("asked", g, say(g, 50, 20), 15, 1);
        error("behind what is asked", g, say(g, AGAIN), 3, NONE);
        error("asked again", g, say(g, 50, 20), 15, 1);
        due("answered", g.answer(30), 1);
        due("behind what is answered", say(g, AGAIN), 1);
        command("behind what is answered", g, 50, 20, 30);
    }

    private static void againAlone() {
        promise = "AGAIN alone";
        GrammarLines g = furnished(2);
        due("an action", say(g, 50, 21), 1);
        error("a word behind", g, say(g, AGAIN, 21), 2, 0);
        command("a word behind", g, AGAIN, 21);
        error("AGAIN twice", g, say(g, AGAIN, AGAIN), 2, 0);
        error("a verb ahead", g, say(g, 50, AGAIN), 7, 1);
        due("AGAIN THEN AGAIN AND 50", say(g, AGAIN, THEN, AGAIN, AND, 50, 22), 1);
        input("AGAIN THEN", g, AGAIN, AND, 50, 22);
        due("AGAIN AND 50", g.parse(), 1);
        input("AGAIN AND 50", g, 50, 22);
        command("AGAIN AND 50", g, 50, 21);
        due("the last", g.parse(), 1);
        command("the last", g, 50, 22);
    }

    private static void againOfWhatHadAnAction() {
        promise = "the COMMAND that had an ACTION last";
        GrammarLines g = furnished(2);
        say(g, 50, 21);
        say(g, 50, 22);
        due("the last of two", say(g, AGAIN), 1);
        command("the last of two", g, 50, 22);
        error("2", g, say(g, 99), 2, 0);
        error("2 by OOPS", g, say(g, OOPS, 98), 2, 0);
        error("7", g, say(g, 50, 99), 7, 1);
        error("15", g, say(g, 50, 20), 15, 1);
        error("1", g, g.parse(), 1, NONE);
        due("errors do not change it", say(g, AGAIN), 1);
        command("errors do not change it", g, 50, 22);
        due("nor does AGAIN", say(g, AGAIN), 1);
        command("nor does AGAIN", g, 50, 22);
        error("a mistake", g, say(g, 50, 99), 7, 1);
        due("mended by OOPS", say(g, OOPS, 23), 1);
        due("what OOPS mended", say(g, AGAIN), 1);
        command("what OOPS mended", g, 50, 23);
    }

    private static void againOfSixtyWords() {
        promise = "AGAIN of a COMMAND of one word, and of 60";
        GrammarLines g = oneLine(9);
        lineOf(g, 0, 2, false);
        due("60 words", say(g, longRow(60, 90, 50)), 1);
        due("AGAIN", say(g, AGAIN), 1);
        due("60 words again", g.told(6), 60);
        due("the last word again", g.said(0, 59), 90);
        due("the last of the topic again", g.object(0, 58), 90);
        due("one word", say(g, 50), 2);
        due("AGAIN of one word", say(g, AGAIN), 2);
        command("AGAIN of one word", g, 50);
    }

    private static void againGoesToWhomItWent() {
        promise = "AGAIN: and to whom it went, in its place";
        GrammarLines g = furnished(2);
        thingOf(g, 9, 26);
        due("an order", say(g, 23, COMMA, 50, 21), 1);
        due("AGAIN", say(g, AGAIN), 1);
        to("AGAIN", g, 4, 50, 21);
        due("AGAIN to another", say(g, 26, COMMA, AGAIN), 1);
        to("AGAIN to another", g, 4, 50, 21);
        due("to none", say(g, 50, 22), 1);
        due("AGAIN, an order", say(g, 23, COMMA, AGAIN), 1);
        to("AGAIN, an order", g, NONE, 50, 22);
        due("an order again", say(g, 23, COMMA, 50, 21), 1);
        error("an error of none", g, say(g, 50, 99), 7, 1);
        due("AGAIN behind an error of none", say(g, AGAIN), 1);
        to("AGAIN behind an error of none", g, 4, 50, 21);
        due("to none again", say(g, 50, 22), 1);
        error("an error of another", g, say(g, 26, COMMA, 50, 99), 7, 1);
        due("AGAIN behind an error of another", say(g, AGAIN), 1);
        to("AGAIN behind an error of another", g, NONE, 50, 22);
        due("an order to another", say(g, 26, COMMA, 50, 21), 1);
        g.flags(6, 0);
        due("the creature is gone", say(g, AGAIN), 1);
        to("the creature is gone", g, 6, 50, 21);
    }

    private static void againIsTriedAnew() {
        promise = "AGAIN: Then it is TRIED";
        GrammarLines g = furnished(2);
        due("an action", say(g, 50, 20, 30), 1);
        g.name(1, 30);
        error("two go with it now", g, say(g, AGAIN), 15, 1);
        asked("two go with it now", g, 15, 0, 1);
        due("answered", g.answer(31), 1);
        command("answered", g, 50, 20, 30, 31);
        due("AGAIN is that", say(g, AGAIN), 1);
        command("AGAIN is that", g, 50, 20, 30, 31);
        g.flags(1, 0);
        error("it is gone", g, say(g, AGAIN, THEN, 50, 21), 6, 3);
        input("INPUT is taken away", g);
    }

    // ---- OOPS ----

    private static void oopsOfNone() {
        promise = "OOPS and one word: if what was answered last was an ERROR; else ERROR 4";
        GrammarLines g = furnished(2);
        error("a new object", g, say(g, OOPS, 21), 4, NONE);
        command("a new object", g, OOPS, 21);
        due("an action", say(g, 50, 21), 1);
        error("behind an action", g, say(g, OOPS, 22), 4, NONE);
        command("behind an action", g, OOPS, 22);
        error("behind 4", g, say(g, OOPS, 22), 4, NONE);
    }

    private static void oopsOfEachError() {
        promise = "an ERROR other than 1, 3, 4 with a PLACE at which a word stands";
        mends(2, 0, 50, furnished(2), 99, 21);
        mends(5, 1, 70, furnished(w(70)), 50, 99);
        mends(6, 2, 21, furnished(2), 50, 21, 99);
        mends(7, 1, 21, furnished(2), 50, 99);
        mends(8, 1, 10001, furnished(10), 50, 99);
        mends(9, 1, 80, furnished(custom(0)), 50, 99);
        mends(10, 1, 23, furnished(5), 50, 21);
        mends(11, 1, 21, furnished(3), 50, 23);
        mends(12, 1, 22, furnished(4), 50, 21);
        mends(13, 1, 21, furnished(2), 50, ALL);
        mends(13, 2, 21, furnished(2), 50, 21, AND);
        GrammarLines nothingLeft = furnished(6);
        nothingLeft.flags(0, 9);
        nothingLeft.flags(1, 9);
        mends(14, 1, 21, nothingLeft, 50, ALL);
        mends(15, 1, 21, furnished(2), 50, 20);
    }

    /** An error at a place, where OOPS puts a word that makes the line fit. */
    private static void mends(int error, int place, int word, GrammarLines g, int... said) {
        g.custom(0, 80, 1);
        error("error " + error, g, say(g, said), error, place);
        due("mended of " + error, say(g, OOPS, word), 1);
        int[] now = said.clone();
        now[place] = word;
        command("mended of " + error, g, now);
    }

    private static void oopsOfTheErrorsWithoutPlace() {
        promise = "OOPS: an ERROR other than 1, 3, 4";
        GrammarLines g = furnished(2);
        error("7", g, say(g, 50, 99), 7, 1);
        error("1", g, g.parse(), 1, NONE);
        error("of 1", g, say(g, OOPS, 21), 4, NONE);
        error("7 again", g, say(g, 50, 99), 7, 1);
        error("3", g, say(g, AGAIN), 3, NONE);
        error("of 3", g, say(g, OOPS, 21), 4, NONE);
        error("of 4", g, say(g, OOPS, 21), 4, NONE);
        error("of 4 again", g, say(g, OOPS, 21), 4, NONE);
        error("an ordinary error", g, say(g, 50, 99), 7, 1);
        due("of that", say(g, OOPS, 21), 1);
    }

    private static void oopsAtTheLastWord() {
        promise = "OOPS: a PLACE at which a word stands: the first, and word 59";
        GrammarLines g = oneLine(9, w(70), 10);
        int[] words = longRow(60, 90, 50);
        words[58] = 70;
        error("word 59", g, say(g, words), 8, 59);
        due("it is mended", say(g, OOPS, 10007), 1);
        due("the last word", g.said(0, 59), 10007);
        due("60 words", g.told(6), 60);
        words[0] = 99;
        words[59] = 10001;
        error("word 0", g, say(g, words), 2, 0);
        due("it is mended", say(g, OOPS, 50), 1);
        due("the first word", g.said(0, 0), 50);
        due("all others stay", g.said(0, 59), 10001);
    }

    private static void oopsBehindTheLastWord() {
        promise = "OOPS: no word stands at the PLACE: ERROR 4";
        GrammarLines five = oneLine(9, w(70));
        error("5 behind the last word", five, say(five, 50, 90), 5, 2);
        error("OOPS of that", five, say(five, OOPS, 70), 4, NONE);
        GrammarLines seven = furnished(6);
        error("7 behind the last word", seven, say(seven, 50, 21, AND), 7, 3);
        error("OOPS of that", seven, say(seven, OOPS, 22), 4, NONE);
        GrammarLines lacks = oneLine(2);
        error("16", lacks, say(lacks, 50), 16, 1);
        error("OOPS of that", lacks, say(lacks, OOPS, 20), 4, NONE);
        command("OOPS of that", lacks, OOPS, 20);
        asked("it is asked no more", lacks, 0);
        GrammarLines full = oneLine(9, w(70), 2);
        error("16 behind 60 words", full, say(full, longRow(60, 90, 50)), 16, 60);
        error("OOPS of that", full, say(full, OOPS, 20), 4, NONE);
    }

    private static void oopsAndOneWordNoMore() {
        promise = "OOPS and one word, no more";
        GrammarLines g = furnished(2);
        error("a mistake", g, say(g, 50, 99), 7, 1);
        error("OOPS alone", g, say(g, OOPS), 2, 0);
        command("OOPS alone", g, OOPS);
        due("OOPS of OOPS alone", say(g, OOPS, 50), 0);
        command("OOPS of OOPS alone", g, 50);
        error("another", g, say(g, 50, 99), 7, 1);
        error("two words", g, say(g, OOPS, 50, 21), 2, 0);
        command("two words", g, OOPS, 50, 21);
        error("a mistake again", g, say(g, 50, 99), 7, 1);
        due("THEN behind the word", say(g, OOPS, 21, THEN, 50, 22), 1);
        command("THEN behind the word", g, 50, 21);
        input("THEN behind the word", g, 50, 22);
        due("what stays", g.parse(), 1);
        error("another mistake", g, say(g, 50, 99), 7, 1);
        error("OOPS THEN", g, say(g, OOPS, THEN, 21), 2, 0);
        error("one more", g, say(g, 50, 99), 7, 1);
        error("AND and a verb behind OOPS", g, say(g, OOPS, AND, 50), 2, 0);
        command("AND and a verb behind OOPS", g, OOPS);
    }

    private static void oopsOfOops() {
        promise = "OOPS: that COMMAND, with this word in that place, is what was answered last";
        GrammarLines g = furnished(2);
        error("a mistake", g, say(g, 59, 99), 2, 0);
        error("mended to another", g, say(g, OOPS, 50), 7, 1);
        command("mended to another", g, 50, 99);
        error("mended to that again", g, say(g, OOPS, 98), 7, 1);
        command("mended to that again", g, 50, 98);
        due("mended", say(g, OOPS, 21), 1);
        command("mended", g, 50, 21);
        error("no more", g, say(g, OOPS, 22), 4, NONE);
    }

    private static void oopsOfAnAnswer() {
        promise = "OOPS: what was answered last, by an ANSWER";
        GrammarLines g = furnished(2, w(70), 2);
        error("which", g, say(g, 50, 20, 70, 99), 15, 1);
        error("the answer leads to an error", g, g.answer(30), 7, 4);
        due("OOPS of that", say(g, OOPS, 21), 1);
        command("OOPS of that", g, 50, 20, 30, 70, 21);
        error("what", g, say(g, 50, 21), 16, 2);
        error("a wrong answer", g, g.answer(99), 7, 3);
        due("OOPS of a wrong answer", say(g, OOPS, 22), 1);
        command("OOPS of a wrong answer", g, 50, 21, 70, 22);
        error("which again", g, say(g, 50, 20, 70, 21), 15, 1);
        due("OOPS for an answer", say(g, OOPS, 22), 1);
        command("OOPS for an answer", g, 50, 22, 70, 21);
    }

    private static void oopsGoesToWhomItWent() {
        promise = "OOPS: and to whom it went";
        GrammarLines g = furnished(2);
        thingOf(g, 9, 26);
        error("an order", g, say(g, 23, COMMA, 50, 99), 7, 1);
        due("OOPS", say(g, OOPS, 21), 1);
        to("OOPS", g, 4, 50, 21);
        error("an order again", g, say(g, 23, COMMA, 50, 99), 7, 1);
        due("OOPS to another", say(g, 26, COMMA, OOPS, 21), 1);
        to("OOPS to another", g, 4, 50, 21);
        error("to none", g, say(g, 50, 99), 7, 1);
        due("OOPS, an order", say(g, 26, COMMA, OOPS, 21), 1);
        to("OOPS, an order", g, NONE, 50, 21);
        error("4, an order", g, say(g, 26, COMMA, OOPS, 21), 4, NONE);
        to("4, an order", g, 6, OOPS, 21);
    }

    private static void oopsWithAnyWord() {
        promise = "OOPS: with this word in that place, whatever word it is";
        for (int word : new int[] {AND, BUT, ALL, AGAIN, OOPS, COMMA, 10, 9999, 10000, 19999, 50}) {
            GrammarLines g = oneLine(w(70), 9);
            error("a mistake", g, say(g, 50, 99, 90), 5, 1);
            error("word " + word, g, say(g, OOPS, word), 5, 1);
            command("word " + word, g, 50, word, 90);
        }
    }

    private static void oopsAfterOtherCalls() {
        promise = "OOPS: what was answered last, by parse() or answer()";
        GrammarLines g = furnished(2);
        error("a mistake", g, say(g, 50, 99), 7, 1);
        g.clear();
        g.word(90);
        g.clear();
        g.flags(0, 0);
        g.thing(1);
        refused("answer", g, x -> x.answer(21), STATE);
        due("other calls are between", say(g, OOPS, 21), 1);
        command("other calls are between", g, 50, 21);
    }

    // ---- INPUT behind errors ----

    private static void errorsTakeInputAway() {
        promise = "An ERROR that is not ASKED takes all INPUT away";
        takesAway(1, furnished());
        takesAway(2, furnished(2), 99);
        takesAway(3, furnished(2), AGAIN);
        takesAway(4, furnished(2), OOPS, 21);
        takesAway(5, furnished(w(70)), 50, 99);
        takesAway(6, furnished(), 50, 99);
        takesAway(7, furnished(2), 50, 99);
        takesAway(8, furnished(10), 50, 99);
        takesAway(9, furnished(custom(0)), 50, 99);
        takesAway(10, furnished(5), 50, 21);
        takesAway(11, furnished(3), 50, 23);
        takesAway(12, furnished(4), 50, 21);
        takesAway(13, furnished(2), 50, ALL);
        takesAway(14, furnished(7), 50, ALL, BUT, 21);
    }

    /** An error with INPUT behind it up to its last word. */
    private static void takesAway(int error, GrammarLines g, int... said) {
        for (int word : said) {
            g.word(word);
        }
        g.word(THEN);
        for (int i = g.told(5); i < 60; i++) {
            g.word(50);
        }
        due("error " + error, g.parse(), -error);
        input("error " + error, g);
        due("a word anew, behind error " + error, g.word(90), 1);
    }

    private static void askedAndActionsLeaveInput() {
        promise = "(What is behind it stays INPUT.)";
        GrammarLines g = furnished(2);
        error("15", g, say(g, 50, 20, THEN, 50, 21), 15, 1);
        input("15", g, 50, 21);
        g.clear();
        g.flags(2, 0);
        error("16", g, say(g, 50, THEN, 50, 22), 16, 1);
        input("16", g, 50, 22);
        error("an answer that is asked of", g, g.answer(20), 15, 1);
        input("an answer that is asked of", g, 50, 22);
        due("an answer with an action", g.answer(30), 1);
        input("an answer with an action", g, 50, 22);
        due("it is taken then", g.parse(), 1);
        command("it is taken then", g, 50, 22);
        error("13 behind an answer", g, say(g, 50, 20, AND, 22, THEN, 50, 22), 15, 1);
        error("an answer with an error", g, g.answer(30), 13, 3);
        input("an answer with an error", g);
    }

    // ---- answers ----

    private static void answerOfAVerb() {
        promise = "a word of a VERB: INPUT is that word alone, and is taken as by parse()";
        GrammarLines g = furnished(2);
        g.verb(51);
        lineOf(g, 1, 2, false);
        g.like(1, 52);
        g.verb(53);
        for (int verb = 51; verb <= 53; verb++) {
            error("which", g, say(g, 23, COMMA, 50, 20, THEN, 50, 21), 15, 1);
            due("word " + verb, g.answer(verb), verb == 53 ? -2 : 2);
            to("word " + verb, g, NONE, verb);
            input("word " + verb, g);
            asked("word " + verb, g, 0);
        }
        g.flags(2, 0);
        error("what", g, say(g, 50, THEN, 50, 21), 16, 1);
        error("the same verb", g, g.answer(50), 16, 1);
        to("the same verb", g, NONE, 50);
        input("the same verb", g);
        g.name(0, 51);
        error("which", g, say(g, 50, 20), 15, 1);
        due("a verb's word that is a name, too", g.answer(51), 2);
        command("a verb's word that is a name, too", g, 51);
        due("AGAIN of that", say(g, AGAIN), 2);
        g.name(4, 52);
        error("which", g, say(g, 50, 20), 15, 1);
        due("a verb's word that names a creature", g.answer(52), 2);
        to("a verb's word that names a creature", g, NONE, 52);
        error("which", g, say(g, 50, 20), 15, 1);
        g.like(1, 30);
        due("a word that is a verb's by now", g.answer(30), 2);
    }

    private static void answerOfAVerbWhenAllIsFull() {
        promise = "a word of a VERB: INPUT and COMMAND are of 60 words";
        GrammarLines g = furnished(2, 9);
        error("60 words", g, say(g, longRow(60, 90, 50, 20)), 15, 1);
        for (int i = 0; i < 60; i++) {
            g.word(90);
        }
        refused("another word", g, x -> x.answer(30), ROOM);
        error("a verb's word", g, g.answer(50), 16, 1);
        command("a verb's word", g, 50);
        input("a verb's word", g);
    }

    private static void answerBehindThePhrase() {
        promise = "behind the PHRASE of which it was ASKED (15)";
        GrammarLines g = furnished(6, w(70), 2);
        error("the first, one word", g, say(g, 50, 20, 70, 21), 15, 1);
        due("answer(31)", g.answer(31), 1);
        command("the first, one word", g, 50, 20, 31, 70, 21);
        error("the first, three words", g, say(g, 50, 20, 20, 20, 70, 21), 15, 1);
        due("answer(31) again", g.answer(31), 1);
        command("the first, three words", g, 50, 20, 20, 20, 31, 70, 21);
        error("the second of a list", g, say(g, 50, 21, AND, 20, COMMA, 22, 70, 21), 15, 3);
        due("answer(30)", g.answer(30), 1);
        command("the second of a list", g, 50, 21, AND, 20, 30, COMMA, 22, 70, 21);
        error("the last word of all", g, say(g, 50, 21, 70, 20), 15, 3);
        due("answer(30) again", g.answer(30), 1);
        command("the last word of all", g, 50, 21, 70, 20, 30);
        error("both", g, say(g, 50, 20, 70, 20), 15, 1);
        error("the first of both", g, g.answer(30), 15, 4);
        command("the first of both", g, 50, 20, 30, 70, 20);
        due("the second of both", g.answer(31), 1);
        command("the second of both", g, 50, 20, 30, 70, 20, 31);
        thingOf(g, 1, 20, 30);
        error("three", g, say(g, 50, 20, 70, 21), 15, 1);
        asked("three", g, 15, 0, 1, 6);
        error("an answer that leaves two", g, g.answer(30), 15, 1);
        asked("an answer that leaves two", g, 15, 0, 6);
        error("an answer that leads nowhere", g, g.answer(99), 15, 1);
        command("an answer that leads nowhere", g, 50, 20, 30, 99, 70, 21);
        error("behind the phrase, ahead of that", g, g.answer(20), 15, 1);
        command("behind the phrase, ahead of that", g, 50, 20, 30, 20, 99, 70, 21);
    }

    private static void answerBehindAll() {
        promise = "or behind all (16), without words TOLD";
        GrammarLines g = oneLine(10);
        error("what", g, say(g, 50), 16, 1);
        due("the number", g.answer(10000), 1);
        command("the number", g, 50, 10000);
        slot("the number", g, 0, 10, 0);
        error("what again", g, say(g, 50), 16, 1);
        error("a wrong one", g, g.answer(90), 8, 1);
        command("a wrong one", g, 50, 90);
        refused("no answer to an error", g, x -> x.answer(10000), STATE);
    }

    private static void answerWithToldWords() {
        promise = "with what was TOLD ahead of it (16)";
        GrammarLines g = oneLine(w(70), or(71), w(72), 10, w(73), w(74), 10);
        error("what", g, say(g, 50), 16, 1);
        error("the next lacks", g, g.answer(10001), 16, 4);
        command("the next lacks", g, 50, 70, 72, 10001);
        asked("the next lacks", g, 16, 10, 73, 74);
        due("the last", g.answer(10002), 1);
        command("the last", g, 50, 70, 72, 10001, 73, 74, 10002);
        error("a part is said", g, say(g, 50, 71), 16, 2);
        error("the part is not told", g, g.answer(10001), 16, 4);
        command("the part is not told", g, 50, 71, 72, 10001);
        error("a told word as an answer", g, g.answer(73), 8, 6);
        command("a told word as an answer", g, 50, 71, 72, 10001, 73, 74, 73);
    }

    private static void answerIsOneWordOfAnySort() {
        promise = "Any other: it comes into the COMMAND";
        for (int word : new int[] {AND, THEN, BUT, ALL, AGAIN, OOPS, COMMA, 10, 9999, 10000, 19999}) {
            GrammarLines what = oneLine(9);
            error("what", what, say(what, 50, THEN, 50, 91), 16, 1);
            due("word " + word + " to what", what.answer(word), 1);
            command("word " + word + " to what", what, 50, word);
            input("word " + word + " to what", what, 50, 91);
            GrammarLines which = furnished(2, 9);
            error("which", which, say(which, 50, 20, 90), 15, 1);
            due("word " + word + " to which", which.answer(word), 0);
            command("word " + word + " to which", which, 50, 20, word, 90);
        }
    }

    private static void answerGoesToTheSame() {
        promise = "(it goes to the same one)";
        GrammarLines g = furnished(2, w(70), 10);
        error("which", g, say(g, 23, COMMA, 50, 20), 15, 1);
        error("what", g, g.answer(30), 16, 3);
        to("what", g, 4, 50, 20, 30);
        due("an action", g.answer(10001), 1);
        to("an action", g, 4, 50, 20, 30, 70, 10001);
        due("AGAIN", say(g, AGAIN), 1);
        to("AGAIN", g, 4, 50, 20, 30, 70, 10001);
        error("to none", g, say(g, 50, 20), 15, 1);
        error("what of none", g, g.answer(30), 16, 3);
        to("what of none", g, NONE, 50, 20, 30);
    }

    private static void answerRoomOfWhich() {
        promise = "ROOM: the COMMAND would have more than 60 words (15)";
        GrammarLines g = furnished(2, 9);
        error("59 words", g, say(g, longRow(59, 90, 50, 20)), 15, 1);
        due("the 60th", g.answer(31), 1);
        due("60 words", g.told(6), 60);
        due("it stands behind the phrase", g.said(0, 2), 31);
        due("the last is moved", g.said(0, 59), 90);
        error("60 words", g, say(g, longRow(60, 90, 50, 20)), 15, 1);
        for (int word : new int[] {AND, 31, 99, 10000}) {
            refused("a 61st, " + word, g, x -> x.answer(word), ROOM);
        }
        refused("a 61st that is none", g, x -> x.answer(9), OUTSIDE);
        asked("it is asked still", g, 15, 0, 1);
        error("and mended by OOPS", g, say(g, OOPS, 99), 7, 1);
    }

    private static void answerRoomOfWhat() {
        promise = "ROOM: the COMMAND would have more than 60 words (16)";
        int[][] kinds = {{9, w(70), 10}, {9, w(70), w(71), 10}, {9, w(70), w(71), w(72), w(73), w(74), w(75), 10}};
        int[] told = {1, 2, 6};
        for (int i = 0; i < kinds.length; i++) {
            GrammarLines g = oneLine(kinds[i]);
            int most = 60 - told[i] - 1;
            error("as many as can be", g, say(g, longRow(most, 90, 50)), 16, most);
            due("the last word there is room for, " + told[i], g.answer(10005), 1);
            due("60 words", g.told(6), 60);
            due("the last", g.said(0, 59), 10005);
            due("the told one ahead of it", g.said(0, 58), kinds[i][kinds[i].length - 2] / 1000);
            error("one more", g, say(g, longRow(most + 1, 90, 50)), 16, most + 1);
            refused("no room, " + told[i], g, x -> x.answer(10005), ROOM);
            refused("no room, and no word", g, x -> x.answer(20000), OUTSIDE);
            asked("it is asked still", g, 16, askedOf(kinds[i]));
        }
    }

    private static int[] askedOf(int... kinds) {
        int[] asked = new int[kinds.length - 1];
        asked[0] = 10;
        for (int i = 1; i < asked.length; i++) {
            asked[i] = kinds[i] / 1000;
        }
        return asked;
    }

    private static void answerUpToSixtyWords() {
        promise = "ROOM: answer upon answer";
        GrammarLines g = furnished(2);
        error("which", g, say(g, 50, 20), 15, 1);
        for (int words = 3; words <= 60; words++) {
            due("up to " + words, g.answer(20), 0);
            due("words, " + words, g.told(6), words);
        }
        refused("one more", g, x -> x.answer(20), ROOM);
        refused("the one that would do", g, x -> x.answer(30), ROOM);
    }

    private static void askedTillTheNext() {
        promise = "ASKED it is till the next parse() or answer() that is not refused";
        GrammarLines g = furnished(2);
        ToIntFunction<GrammarLines> ask = x -> say(x, 50, 20);
        error("which", g, ask.applyAsInt(g), 15, 1);
        g.word(50);
        g.clear();
        g.verb(51);
        g.like(1, 52);
        g.line(1, 3, false);
        g.token(1, 0, 70);
        g.thing(1);
        g.name(6, 20);
        g.flags(0, 0);
        g.custom(0, 20, 1);
        refused("a refused answer", g, x -> x.answer(8), OUTSIDE);
        asked("other calls do not end it", g, 15, 0, 1);
        due("the place stays", g.told(1), 1);
        due("an answer does", g.answer(31), 1);
        asked("an answer does", g, 0);
        refused("an answer to nothing", g, x -> x.answer(31), STATE);
        error("which again", g, ask.applyAsInt(g), 15, 1);
        due("a parse() with an action does", say(g, 50, 21), 1);
        asked("a parse() with an action does", g, 0);
        refused("an answer to nothing again", g, x -> x.answer(31), STATE);
        error("which once more", g, ask.applyAsInt(g), 15, 1);
        error("a parse() without words does", g, g.parse(), 1, NONE);
        refused("an answer behind error 1", g, x -> x.answer(31), STATE);
    }

    private static void askedNothing() {
        promise = "STATE: nothing is ASKED";
        GrammarLines g = furnished(2);
        refused("a new object", g, x -> x.answer(21), STATE);
        refused("a verb's word", g, x -> x.answer(50), STATE);
        due("an action", say(g, 50, 21), 1);
        refused("behind an action", g, x -> x.answer(21), STATE);
        error("13", g, say(g, 50, ALL), 13, 1);
        refused("behind error 13", g, x -> x.answer(21), STATE);
        GrammarLines none = oneLine(7);
        error("14", none, say(none, 50, ALL), 14, 1);
        refused("behind error 14", none, x -> x.answer(21), STATE);
    }
}
