import java.util.Arrays;

/**
 * The boundary cases of part 2: phrases, each kind of token where it just takes what stands there and where it just
 * does not, the places of errors up to behind the last word, what is filled and asked, and which error is told.
 */
public final class TryingTest extends Checks {
    public static void main(String[] args) {
        flagsAndKinds();
        flagsAndAll();
        flagsAndFilling();
        namelessThings();
        longestPhrase();
        phraseOfOneWordAndOfMany();
        phraseAtTheLastWord();
        phraseInScope();
        phraseThings();
        lineWithoutTokens();
        wordsFromOneOn();
        placeBehindTheLastWord();
        wordToken();
        allForOneThing();
        noPhraseForOneThing();
        noneThatCount();
        moreThanOne();
        joinBehindOneThing();
        orderOfErrorsForOneThing();
        allOfSeveral();
        allOfNothing();
        butAndNothing();
        butPhrases();
        butAsLongAsCanBe();
        allIsOneWord();
        listOfPhrases();
        listThatLacksOne();
        listAsLongAsCanBe();
        listErrorsAtTheirOwnPlace();
        listOfHeldThings();
        nothingLeftComesAheadOfWordsLeft();
        otherSlotIsOut();
        otherSlotOfWhichKind();
        otherSlotBehindWordsLeft();
        topicUpToTheWordBehind();
        topicOfOneWord();
        topicUpToTheEnd();
        topicTakesAnything();
        numberThere();
        valueThere();
        wordsLeft();
        wordsEndWithoutSlot();
        filledByJustOne();
        filledNotAmongTheThings();
        filledNotFilledBefore();
        filledWords();
        notFilledIfOneIsOfAnotherKind();
        notFilledInPart();
        lackingSlotAndToldWords();
        verbOfNone();
        verbWithoutLines();
        firstThatFits();
        greatestErrorOfTwo();
        sameErrorTwice();
        linesOfOtherVerbs();
        reversedWithTwoSlots();
        end();
    }

    // ---- flags ----

    private static boolean inScope(int flags) {
        return flags % 8 != 0;
    }

    private static boolean held(int flags) {
        return flags % 8 >= 2;
    }

    private static boolean worn(int flags) {
        return flags % 8 >= 4;
    }

    private static boolean creature(int flags) {
        return flags >= 8;
    }

    private static void flagsAndKinds() {
        promise = "What is WORN is HELD, too; IN SCOPE are those that are HERE or HELD; of kinds 2 to 7";
        for (int flags = 0; flags <= 15; flags++) {
            int[] errors = {0, held(flags) ? 0 : 11, worn(flags) ? 0 : 12, creature(flags) ? 0 : 10, 0, held(flags) ? 0 : 11};
            for (int kind = 2; kind <= 7; kind++) {
                GrammarLines g = oneLine(kind);
                thingOf(g, flags, 20);
                int error = inScope(flags) ? errors[kind - 2] : 7;
                int want = error == 0 ? 1 : -error;
                due("flags " + flags + ", kind " + kind, say(g, 50, 20), want);
                due("place of flags " + flags + ", kind " + kind, g.told(1), error == 0 ? NONE : 1);
            }
        }
    }

    private static void flagsAndAll() {
        promise = "all IN SCOPE that are no CREATURES, of 6 not HELD, of 7 and 8 HELD and not WORN";
        for (int flags = 0; flags <= 15; flags++) {
            for (int kind = 6; kind <= 8; kind++) {
                GrammarLines g = oneLine(kind);
                thingOf(g, flags, 20);
                boolean among = kind == 6 ? flags == 1 : flags == 2 || flags == 3;
                due("flags " + flags + ", kind " + kind, say(g, 50, ALL), among ? 1 : -14);
                due("how many of flags " + flags + ", kind " + kind, g.object(0, -1), among ? 1 : NONE);
            }
        }
    }

    private static void flagsAndFilling() {
        promise = "goes with it (2: IN SCOPE, no CREATURE; 3: HELD, no CREATURE; 4: WORN; 5: a CREATURE, IN SCOPE)";
        for (int flags = 0; flags <= 15; flags++) {
            boolean[] goes = {inScope(flags) && !creature(flags), held(flags) && !creature(flags), worn(flags),
                creature(flags) && inScope(flags)};
            for (int kind = 2; kind <= 5; kind++) {
                GrammarLines g = oneLine(kind);
                thingOf(g, flags, 20);
                due("flags " + flags + ", kind " + kind, say(g, 50), goes[kind - 2] ? 1 : 0);
                due("filled(0) of flags " + flags + ", kind " + kind, g.filled(0), goes[kind - 2] ? 20000 : NONE);
            }
        }
    }

    // ---- phrases ----

    private static void namelessThings() {
        promise = "such that some thing IN SCOPE has all of them as NAMES: no names, no things";
        GrammarLines g = oneLine(2);
        error("no things", g, say(g, 50, 20), 7, 1);
        g.thing(1);
        error("a thing without names", g, say(g, 50, 20), 7, 1);
        due("it is filled all the same", say(g, 50), 1);
        GrammarLines all = oneLine(6);
        all.thing(1);
        due("it is one of ALL", say(all, 50, ALL), 1);
        slot("it is one of ALL", all, 0, 6, 0);
    }

    private static void longestPhrase() {
        promise = "as many words from there on as can be";
        GrammarLines g = oneLine(2, 9);
        thingOf(g, 1, 20, 21, 22, 23);
        for (int many = 1; many <= 4; many++) {
            int[] words = {50, 20, 21, 22, 23};
            words[many] = 90;
            int[] said = Arrays.copyOf(words, many + 1);
            due("words of the phrase, " + (many - 1), say(g, said), many == 1 ? -7 : 1);
            due("the topic behind them, " + (many - 1), g.object(1, 0), many == 1 ? NONE : 90);
        }
        due("all four, in another order", say(g, 50, 23, 20, 22, 21, 90), 1);
        slot("all four", g, 1, 9, 90);
        thingOf(g, 1, 20, 90);
        due("a word that another has alone ends it", say(g, 50, 20, 21, 90), 1);
        slot("the first is meant", g, 0, 2, 0);
        slot("the word behind is no more of it", g, 1, 9, 90);
        error("a word that both have", g, say(g, 50, 20), 15, 1);
        error("all of the words are the phrase's", g, say(g, 50, 20, 90), 16, 3);
    }

    private static void phraseOfOneWordAndOfMany() {
        promise = "as many words, one at least: said twice";
        GrammarLines g = oneLine(2);
        thingOf(g, 1, 20);
        due("one word", say(g, 50, 20), 1);
        due("59 words", say(g, longRow(60, 20, 50)), 1);
        slot("59 words", g, 0, 2, 0);
        due("the command is 60 long", g.told(6), 60);
        int[] words = longRow(60, 20, 50);
        words[59] = 21;
        error("58 words and another", g, say(g, words), 6, 59);
    }

    private static void phraseAtTheLastWord() {
        promise = "A PHRASE at a place: the last place";
        GrammarLines g = oneLine(9, w(70), 2);
        thingOf(g, 1, 20);
        int[] words = longRow(60, 90, 50);
        words[58] = 70;
        words[59] = 20;
        due("word 59", say(g, words), 1);
        slot("word 59", g, 1, 2, 0);
        words[59] = 21;
        error("word 59 is no phrase", g, say(g, words), 7, 59);
    }

    private static void phraseInScope() {
        promise = "some thing IN SCOPE has all of them";
        GrammarLines g = oneLine(2, 9);
        thingOf(g, 0, 20, 21, 22);
        thingOf(g, 8, 20);
        error("one far, one a far creature", g, say(g, 50, 20, 21), 7, 1);
        thingOf(g, 1, 20, 21);
        due("the far one does not lengthen it", say(g, 50, 20, 21, 22), 1);
        slot("the one here", g, 0, 2, 2);
        slot("the word behind", g, 1, 9, 22);
        g.flags(0, 4);
        due("the worn one does", say(g, 50, 20, 21, 22, 90), 1);
        slot("the worn one", g, 0, 2, 0);
        slot("the word behind that", g, 1, 9, 90);
    }

    private static void phraseThings() {
        promise = "ITS THINGS are all that have";
        GrammarLines g = oneLine(2);
        thingOf(g, 1, 20, 21);
        thingOf(g, 0, 20, 21);
        thingOf(g, 9, 21, 20);
        thingOf(g, 2, 20);
        error("three in scope", g, say(g, 50, 20), 15, 1);
        asked("three in scope", g, 15, 0, 2, 3);
        error("two with both words", g, say(g, 50, 21, 20), 15, 1);
        asked("two with both words", g, 15, 0, 2);
    }

    // ---- lines and words ----

    private static void lineWithoutTokens() {
        promise = "Behind the last TOKEN: a LINE without any";
        GrammarLines g = oneLine();
        due("the verb alone", say(g, 50), 1);
        due("told(2)", g.told(2), 0);
        noSlot("no slots", g, 0);
        filled("nothing is filled", g);
        error("one word more", g, say(g, 50, 50), 6, 1);
        error("59 words more", g, say(g, longRow(60, 90, 50)), 6, 1);
    }

    private static void wordsFromOneOn() {
        promise = "from word 1 on each TOKEN takes words, one at least";
        GrammarLines g = oneLine(9);
        due("one word", say(g, 50, 50), 1);
        slot("word 0 is the verb's", g, 0, 9, 50);
        GrammarLines two = oneLine(w(70), w(70));
        error("one word is not taken twice", two, say(two, 50, 70), 5, 2);
        due("two words", say(two, 50, 70, 70), 1);
        error("three words", two, say(two, 50, 70, 70, 70), 6, 3);
    }

    private static void placeBehindTheLastWord() {
        promise = "behind the last word: how many there are";
        for (int many = 2; many <= 60; many += many < 58 ? 14 : 1) {
            GrammarLines g = oneLine(9, w(70));
            error("5 behind " + many, g, say(g, longRow(many, 90, 50)), 5, many);
            GrammarLines lacks = oneLine(9, w(70), 10);
            error("16 behind " + many, lacks, say(lacks, longRow(many, 90, 50)), 16, many);
            if (many > 2) {
                GrammarLines list = oneLine(9, w(70), 6);
                thingOf(list, 1, 20);
                int[] words = longRow(many + 2 > 60 ? 60 : many + 2, 90, 50);
                words[words.length - 3] = 70;
                words[words.length - 2] = 20;
                words[words.length - 1] = AND;
                error("7 behind " + words.length, list, say(list, words), 7, words.length);
            }
        }
        GrammarLines alone = oneLine(10);
        error("16 behind the verb alone", alone, say(alone, 50), 16, 1);
        GrammarLines word = oneLine(w(70));
        error("5 behind the verb alone", word, say(word, 50), 5, 1);
    }

    private static void wordToken() {
        promise = "WORD: ERROR 5, if none of its words stands there";
        GrammarLines g = oneLine(w(70), or(71), w(71), or(72), 9);
        int[][] fits = {{70, 71}, {71, 71}, {71, 72}, {70, 72}};
        for (int[] pair : fits) {
            due("words " + pair[0] + " " + pair[1], say(g, 50, pair[0], pair[1], 90), 1);
        }
        error("the second's word for the first", g, say(g, 50, 72, 71, 90), 5, 1);
        error("the first's word for the second", g, say(g, 50, 70, 70, 90), 5, 2);
        for (int other : new int[] {AND, ALL, COMMA, 69, 73, 10070}) {
            error("word " + other, g, say(g, 50, other, 71, 90), 5, 1);
        }
    }

    // ---- kinds 2 to 5 ----

    private static void allForOneThing() {
        promise = "2 to 5: ERROR 13: ALL stands there";
        for (int kind = 2; kind <= 5; kind++) {
            GrammarLines g = furnished(kind);
            error("kind " + kind, g, say(g, 50, ALL), 13, 1);
            error("kind " + kind + " with BUT", g, say(g, 50, ALL, BUT, 21), 13, 1);
            GrammarLines none = oneLine(kind);
            error("kind " + kind + " without things", none, say(none, 50, ALL), 13, 1);
        }
    }

    private static void noPhraseForOneThing() {
        promise = "7: there is no PHRASE";
        for (int kind = 2; kind <= 8; kind++) {
            GrammarLines g = furnished(kind);
            for (int word : new int[] {AND, BUT, AGAIN, OOPS, COMMA, 24, 99, 10020, 50}) {
                error("kind " + kind + ", word " + word, g, say(g, 50, word), 7, 1);
            }
        }
    }

    private static void noneThatCount() {
        promise = "none: ERROR 11 (3), 12 (4), 10 (5)";
        int[] errors = {11, 12, 10};
        for (int kind = 3; kind <= 5; kind++) {
            GrammarLines g = oneLine(kind);
            thingOf(g, 1, 20);
            error("one, kind " + kind, g, say(g, 50, 20), errors[kind - 3], 1);
            thingOf(g, 1, 20);
            error("of two none, kind " + kind, g, say(g, 50, 20), errors[kind - 3], 1);
            int flags = kind == 5 ? 9 : 4;
            thingOf(g, flags, 20);
            due("of three one, kind " + kind, say(g, 50, 20), 1);
            slot("of three one, kind " + kind, g, 0, kind, 2);
            thingOf(g, flags, 20);
            error("of four two, kind " + kind, g, say(g, 50, 20), 15, 1);
            asked("of four two, kind " + kind, g, 15, 2, 3);
            g.flags(2, 8);
            due("a far one does not count, kind " + kind, say(g, 50, 20), 1);
            slot("a far one does not count, kind " + kind, g, 0, kind, 3);
        }
    }

    private static void moreThanOne() {
        promise = "15: more than one";
        GrammarLines g = oneLine(2);
        thingOf(g, 1, 20);
        due("one", say(g, 50, 20), 1);
        thingOf(g, 9, 20);
        error("two, one a creature", g, say(g, 50, 20), 15, 1);
        asked("two, one a creature", g, 15, 0, 1);
        g.flags(1, 8);
        due("one again", say(g, 50, 20), 1);
    }

    private static void joinBehindOneThing() {
        promise = "13, with the place behind: AND or COMMA stands behind the PHRASE";
        for (int kind = 2; kind <= 5; kind++) {
            GrammarLines g = oneLine(kind);
            thingOf(g, 12, 20, 21);
            for (int join : new int[] {AND, COMMA}) {
                error("one word", g, say(g, 50, 20, join, 20), 13, 2);
                error("two words", g, say(g, 50, 20, 21, join, 20), 13, 3);
                error("at the end", g, say(g, 50, 20, join), 13, 2);
            }
            for (int no : new int[] {BUT, ALL, AGAIN, OOPS, 99, 10001}) {
                error("word " + no + " is left", g, say(g, 50, 20, no), 6, 2);
            }
        }
        GrammarLines at59 = oneLine(9, w(70), 2);
        thingOf(at59, 1, 20);
        int[] words = longRow(60, 90, 50);
        words[57] = 70;
        words[58] = 20;
        words[59] = AND;
        error("the last word", at59, say(at59, words), 13, 59);
    }

    private static void orderOfErrorsForOneThing() {
        promise = "the first ERROR that is met ends it: 13, 7, 10 to 12, 15, 13";
        for (int kind = 3; kind <= 5; kind++) {
            GrammarLines g = oneLine(kind);
            thingOf(g, 1, 20);
            thingOf(g, 1, 20);
            error("none counts, AND behind", g, say(g, 50, 20, AND, 20), kind == 5 ? 10 : kind + 8, 1);
            g.flags(0, 12);
            g.flags(1, 12);
            error("more than one, AND behind", g, say(g, 50, 20, AND, 20), 15, 1);
            g.flags(1, 0);
            error("one, AND behind", g, say(g, 50, 20, AND, 20), 13, 2);
            error("one, words behind", g, say(g, 50, 20, 99), 6, 2);
        }
    }

    // ---- kinds 6 to 8 ----

    private static void allOfSeveral() {
        promise = "if ALL stands there: by their numbers, from one to all";
        GrammarLines g = oneLine(6);
        thingOf(g, 1, 20);
        due("one", say(g, 50, ALL), 1);
        slot("one", g, 0, 6, 0);
        thingOf(g, 2, 21);
        thingOf(g, 9, 22);
        thingOf(g, 1, 23);
        due("two of four", say(g, 50, ALL), 1);
        slot("two of four", g, 0, 6, 0, 3);
        g.flags(0, 5);
        due("worn and here is held", say(g, 50, ALL), 1);
        slot("worn and here is held", g, 0, 6, 3);
    }

    private static void allOfNothing() {
        promise = "ERROR 14, at the place at which it began, if there is none then: ALL";
        for (int kind = 6; kind <= 8; kind++) {
            GrammarLines g = oneLine(w(70), kind);
            error("no things, kind " + kind, g, say(g, 50, 70, ALL), 14, 2);
            thingOf(g, 9, 20);
            thingOf(g, 4, 21);
            thingOf(g, 0, 22);
            error("none of three, kind " + kind, g, say(g, 50, 70, ALL), 14, 2);
            thingOf(g, kind == 6 ? 1 : 2, 23);
            due("one of four, kind " + kind, say(g, 50, 70, ALL), 1);
            slot("one of four, kind " + kind, g, 0, kind, 3);
            error("all but that, kind " + kind, g, say(g, 50, 70, ALL, BUT, 23), 14, 2);
        }
    }

    private static void butAndNothing() {
        promise = "if BUT is behind it, a PHRASE is behind that (7, where one lacks, there)";
        for (int kind = 6; kind <= 8; kind++) {
            GrammarLines g = furnished(kind);
            error("BUT at the end", g, say(g, 50, ALL, BUT), 7, 3);
            error("BUT and a word of none", g, say(g, 50, ALL, BUT, 99), 7, 3);
            error("BUT and a far thing", g, say(g, 50, ALL, BUT, 24), 7, 3);
            error("BUT ALL", g, say(g, 50, ALL, BUT, ALL), 7, 3);
            error("BUT AND", g, say(g, 50, ALL, BUT, AND, 22), 7, 3);
            error("BUT BUT", g, say(g, 50, ALL, BUT, BUT, 22), 7, 3);
            for (int join : new int[] {AND, COMMA}) {
                error("a join at the end", g, say(g, 50, ALL, BUT, 22, join), 7, 5);
                error("a join and a word of none", g, say(g, 50, ALL, BUT, 22, join, 99), 7, 5);
                error("a join and ALL", g, say(g, 50, ALL, BUT, 22, join, ALL), 7, 5);
                error("two joins", g, say(g, 50, ALL, BUT, 22, AND, join, 23), 7, 5);
            }
        }
        GrammarLines none = oneLine(6);
        error("a lacking phrase comes ahead of nothing left", none, say(none, 50, ALL, BUT), 7, 3);
    }

    private static void butPhrases() {
        promise = "all of ITS THINGS, each time, are out";
        GrammarLines g = furnished(6);
        thingOf(g, 1, 26);
        due("both lamps by one word", say(g, 50, ALL, BUT, 20), 1);
        slot("both lamps by one word", g, 0, 6, 6);
        due("one lamp", say(g, 50, ALL, BUT, 20, 31), 1);
        slot("one lamp", g, 0, 6, 0, 6);
        due("two phrases", say(g, 50, ALL, BUT, 31, COMMA, 26), 1);
        slot("two phrases", g, 0, 6, 0);
        due("those that are not among them", say(g, 50, ALL, BUT, 21, AND, 22, COMMA, 23), 1);
        slot("those that are not among them", g, 0, 6, 0, 1, 6);
        due("the same twice", say(g, 50, ALL, BUT, 26, AND, 26), 1);
        slot("the same twice", g, 0, 6, 0, 1);
        error("all of them", g, say(g, 50, ALL, BUT, 20, AND, 26), 14, 1);
    }

    private static void butAsLongAsCanBe() {
        promise = "and others, with AND or COMMA between: up to word 59";
        GrammarLines g = furnished(6);
        int[] words = longRow(60, 30, 50, ALL, BUT);
        for (int i = 4; i < 60; i += 2) {
            words[i] = i % 4 == 0 ? AND : COMMA;
        }
        due("29 phrases", say(g, words), 1);
        slot("29 phrases", g, 0, 6, 1);
        words[59] = 31;
        error("the last takes the other lamp", g, say(g, words), 14, 1);
        words[59] = 99;
        error("the last is none", g, say(g, words), 7, 59);
        words[59] = 30;
        error("a join at the end", g, say(g, Arrays.copyOf(words, 59)), 7, 59);
    }

    private static void allIsOneWord() {
        promise = "if ALL stands there, what is behind it is BUT or no more of it";
        GrammarLines g = furnished(6);
        for (int word : new int[] {AND, COMMA, ALL, 20, 99, 10001}) {
            error("ALL and " + word, g, say(g, 50, ALL, word, 21), 6, 2);
        }
        error("BUT behind a phrase", g, say(g, 50, 20, 30, BUT, 21), 6, 3);
        error("BUT at first", g, say(g, 50, BUT, 21), 7, 1);
        GrammarLines word = furnished(6, w(70), 2);
        due("a word behind ALL", say(word, 50, ALL, 70, 21), 1);
        slot("a word behind ALL", word, 0, 6, 0, 1);
        due("a word behind BUT and a phrase", say(word, 50, ALL, BUT, 30, 70, 21), 1);
        slot("a word behind BUT and a phrase", word, 0, 6, 1);
    }

    private static void listOfPhrases() {
        promise = "Else PHRASES, with AND or COMMA between, each as told of 2";
        GrammarLines g = furnished(6);
        due("one", say(g, 50, 21), 1);
        slot("one", g, 0, 6, 2);
        due("two", say(g, 50, 22, AND, 21), 1);
        slot("two, by their numbers", g, 0, 6, 2, 3);
        due("five", say(g, 50, 23, COMMA, 22, AND, 21, AND, 31, COMMA, 30), 1);
        slot("five, by their numbers", g, 0, 6, 0, 1, 2, 3, 4);
        due("one three times", say(g, 50, 21, AND, 21, COMMA, 21), 1);
        slot("one three times", g, 0, 6, 2);
        error("without a join", g, say(g, 50, 21, 22), 6, 2);
    }

    private static void listThatLacksOne() {
        promise = "Else PHRASES: 7, where one lacks, there";
        for (int kind = 6; kind <= 8; kind++) {
            GrammarLines g = furnished(kind);
            for (int join : new int[] {AND, COMMA}) {
                error("a join at first", g, say(g, 50, join, 21), 7, 1);
                error("a join at the end", g, say(g, 50, 21, join), 7, 3);
                error("two joins", g, say(g, 50, 21, join, AND, 22), 7, 3);
                error("a word of none", g, say(g, 50, 21, join, 99), 7, 3);
                error("BUT in a list", g, say(g, 50, 21, join, BUT, 22), 7, 3);
                error("ALL in a list", g, say(g, 50, 21, join, ALL), 13, 3);
            }
        }
    }

    private static void listAsLongAsCanBe() {
        promise = "Else PHRASES: up to word 59";
        GrammarLines g = furnished(7);
        int[] words = longRow(60, 21, 50);
        for (int i = 2; i < 60; i += 2) {
            words[i] = i % 4 == 0 ? AND : COMMA;
        }
        words[59] = 22;
        due("30 phrases", say(g, words), 1);
        slot("30 phrases", g, 0, 7, 2, 3);
        words[59] = 30;
        error("the last is not held", g, say(g, words), 11, 59);
        error("a join at the end", g, say(g, Arrays.copyOf(words, 59)), 7, 59);
        GrammarLines all = oneLine(6);
        int[] names = longRow(60, AND, 50);
        for (int i = 0; i < 30; i++) {
            thingOf(all, 1, 100 + i);
            names[1 + 2 * i] = 129 - i;
        }
        due("30 things", say(all, names), 1);
        due("how many", all.object(0, -1), 30);
        for (int i = 0; i <= 30; i++) {
            due("object(0, " + i + ")", all.object(0, i), i < 30 ? i : NONE);
        }
    }

    private static void listErrorsAtTheirOwnPlace() {
        promise = "up to 15 (at its own place)";
        GrammarLines g = furnished(6);
        error("the first", g, say(g, 50, 20, AND, 21), 15, 1);
        error("the second", g, say(g, 50, 21, AND, 20), 15, 3);
        asked("the second", g, 15, 0, 1);
        error("the third, behind a phrase of two words", g, say(g, 50, 20, 30, AND, 21, COMMA, 20), 15, 6);
        GrammarLines held = furnished(7);
        error("7 of 11", held, say(held, 50, 21, AND, 20), 11, 3);
        GrammarLines but = furnished(8);
        error("8 of 11", but, say(but, 50, 22, COMMA, 23), 11, 3);
    }

    private static void listOfHeldThings() {
        promise = "each as told of 3 (7, 8)";
        for (int kind = 7; kind <= 8; kind++) {
            GrammarLines g = oneLine(kind);
            thingOf(g, 1, 20);
            thingOf(g, 4, 20);
            thingOf(g, 10, 21);
            due("the worn one is meant", say(g, 50, 20), 1);
            slot("the worn one is meant", g, 0, kind, 1);
            due("a held creature", say(g, 50, 20, AND, 21), 1);
            slot("a held creature", g, 0, kind, 1, 2);
            g.flags(0, 2);
            error("two are held", g, say(g, 50, 21, AND, 20), 15, 3);
            asked("two are held", g, 15, 0, 1);
        }
    }

    private static void nothingLeftComesAheadOfWordsLeft() {
        promise = "the first ERROR that is met ends it: 14 ahead of 6";
        GrammarLines g = furnished(6);
        error("nothing is left, and words are", g, say(g, 50, ALL, BUT, 20, 99), 14, 1);
        GrammarLines word = furnished(6, w(70));
        error("nothing is left, and a word lacks", word, say(word, 50, ALL, BUT, 20), 14, 1);
    }

    private static void otherSlotIsOut() {
        promise = "Then of 8 the thing of the other SLOT is out: ERROR 14, at the place at which it began";
        GrammarLines g = furnished(8, w(70), 2);
        error("one, and that is out", g, say(g, 50, 21, 70, 21), 14, 1);
        due("two, and one is out", say(g, 50, 22, AND, 21, 70, 21), 1);
        slot("two, and one is out", g, 0, 8, 3);
        due("another", say(g, 50, 21, 70, 22), 1);
        slot("another", g, 0, 8, 2);
        error("ALL is one, and that is out", g, say(g, 50, ALL, 70, 21), 14, 1);
        due("ALL, and another", say(g, 50, ALL, 70, 23), 1);
        slot("ALL, and another", g, 0, 8, 2);
        GrammarLines late = furnished(2, w(70), w(71), 8);
        error("8 comes behind", late, say(late, 50, 21, 70, 71, 21), 14, 4);
        due("8 comes behind, two", say(late, 50, 21, 70, 71, 21, AND, 22), 1);
        slot("8 comes behind, two", late, 1, 8, 3);
    }

    private static void otherSlotOfWhichKind() {
        promise = "if that is of 2 to 5";
        for (int kind = 2; kind <= 8; kind++) {
            GrammarLines g = oneLine(8, w(70), kind);
            thingOf(g, 12, 20);
            int want = kind <= 5 ? -14 : 1;
            due("the other of kind " + kind, say(g, 50, 20, 70, 20), want);
            GrammarLines late = oneLine(kind, w(70), 8);
            thingOf(late, 12, 20);
            due("8 behind kind " + kind, say(late, 50, 20, 70, 20), want);
        }
        GrammarLines number = oneLine(8, w(70), 10);
        thingOf(number, 2, 20);
        due("a number is no thing", say(number, 50, 20, 70, 10000), 1);
        slot("a number is no thing", number, 0, 8, 0);
        GrammarLines value = oneLine(8, w(70), custom(0));
        thingOf(value, 2, 20);
        value.custom(0, 80, 0);
        due("a value is no thing", say(value, 50, 20, 70, 80), 1);
        slot("a value is no thing", value, 0, 8, 0);
        GrammarLines seven = oneLine(7, w(70), 2);
        thingOf(seven, 2, 20);
        due("of 7 nothing is out", say(seven, 50, 20, 70, 20), 1);
    }

    private static void otherSlotBehindWordsLeft() {
        promise = "ERROR 6, if words are left. Then of 8";
        GrammarLines g = furnished(8, w(70), 2);
        error("words are left, and nothing is", g, say(g, 50, 21, 70, 21, 99), 6, 4);
        error("a join is left", g, say(g, 50, 21, 70, 21, AND), 13, 4);
    }

    // ---- topics, numbers, customs ----

    private static void topicUpToTheWordBehind() {
        promise = "TOPIC: all words up to the first one behind its own first that is one of those of the TOKEN behind it";
        GrammarLines g = oneLine(9, w(70), or(71), 9);
        due("one word", say(g, 50, 90, 71, 91), 1);
        slot("one word", g, 0, 9, 90);
        due("its own first does not end it", say(g, 50, 70, 71, 91), 1);
        slot("its own first does not end it", g, 0, 9, 70);
        due("nor alone of three", say(g, 50, 70, 70, 70), 1);
        slot("nor alone of three", g, 0, 9, 70);
        slot("the last of three", g, 1, 9, 70);
        due("the first of several ends it", say(g, 50, 90, 71, 70, 71), 1);
        slot("the first of several ends it", g, 0, 9, 90);
        slot("what is behind that", g, 1, 9, 70, 71);
        int[] words = longRow(60, 90, 50);
        words[58] = 70;
        due("57 words", say(g, words), 1);
        due("how many", g.object(0, -1), 57);
        slot("the 58th ends it", g, 1, 9, 90);
        words[58] = 90;
        words[59] = 70;
        error("the last word ends it", g, say(g, words), 16, 60);
    }

    private static void topicOfOneWord() {
        promise = "TOPIC takes one word at least";
        GrammarLines g = oneLine(9, w(70));
        error("the words end ahead of it", g, say(g, 50), 16, 1);
        asked("the words end ahead of it", g, 16, 9);
        error("the word behind it alone", g, say(g, 50, 70), 5, 2);
        due("that twice", say(g, 50, 70, 70), 1);
        slot("that twice", g, 0, 9, 70);
        error("that three times", g, say(g, 50, 70, 70, 70), 6, 3);
    }

    private static void topicUpToTheEnd() {
        promise = "TOPIC: (or up to the end)";
        GrammarLines last = oneLine(w(70), 9);
        due("one word", say(last, 50, 70, 70), 1);
        slot("one word", last, 0, 9, 70);
        due("58 words", say(last, longRow(60, 70, 50)), 1);
        due("how many", last.object(0, -1), 58);
        due("behind the last", last.object(0, 58), NONE);
        GrammarLines word = oneLine(9, w(70));
        error("no word ends it", word, say(word, 50, 90, 91, 92), 5, 4);
        GrammarLines slot = oneLine(9, w(70), 2);
        thingOf(slot, 1, 20);
        due("what is behind is filled", say(slot, 50, 90, 91), 1);
        filled("what is behind is filled", slot, 70, 20000);
        slot("the topic", slot, 0, 9, 90, 91);
    }

    private static void topicTakesAnything() {
        promise = "TOPIC: all words";
        GrammarLines g = oneLine(9, w(70));
        g.thing(1);
        g.name(0, 20);
        due("each sort of word", say(g, 50, AND, BUT, ALL, AGAIN, OOPS, COMMA, 10, 9999, 10000, 19999, 20, 50, 70), 1);
        slot("each sort of word", g, 0, 9, AND, BUT, ALL, AGAIN, OOPS, COMMA, 10, 9999, 10000, 19999, 20, 50);
    }

    private static void numberThere() {
        promise = "NUMBER: 8, if none stands there";
        GrammarLines g = oneLine(10, 10);
        due("the least and the greatest", say(g, 50, 10000, 19999), 1);
        slot("the least", g, 0, 10, 0);
        slot("the greatest", g, 1, 10, 9999);
        error("the word below the least", g, say(g, 50, 9999, 10000), 8, 1);
        error("the second", g, say(g, 50, 10000, ALL), 8, 2);
        error("one more", g, say(g, 50, 10000, 10000, 10000), 6, 3);
        error("one less", g, say(g, 50, 10000), 16, 2);
        asked("one less", g, 16, 10);
    }

    private static void valueThere() {
        promise = "CUSTOM: 9, if the word there has no VALUE for its number";
        GrammarLines g = oneLine(custom(0), custom(9));
        error("no pairs", g, say(g, 50, 80, 80), 9, 1);
        g.custom(0, 80, 0);
        error("a value for the first alone", g, say(g, 50, 80, 80), 9, 2);
        g.custom(9, 80, 9999);
        due("a value for both", say(g, 50, 80, 80), 1);
        slot("value 0", g, 0, 11, 0);
        slot("value 9999", g, 1, 11, 9999);
        error("another word", g, say(g, 50, 81, 80), 9, 1);
        error("one less", g, say(g, 50, 80), 16, 2);
        asked("one less", g, 16, 11);
    }

    // ---- behind the last token, and where the words end ----

    private static void wordsLeft() {
        promise = "Behind the last TOKEN: ERROR 6, if words are left";
        int[][] kinds = {{w(70)}, {2}, {6}, {7}, {10}, {custom(0)}};
        int[] words = {70, 21, 21, 21, 10005, 80};
        for (int i = 0; i < kinds.length; i++) {
            GrammarLines g = furnished(kinds[i]);
            g.custom(0, 80, 1);
            due("none is left, " + i, say(g, 50, words[i]), 1);
            error("one is left, " + i, g, say(g, 50, words[i], 99), 6, 2);
            error("many are left, " + i, g, say(g, longRow(60, 99, 50, words[i])), 6, 2);
        }
    }

    private static void wordsEndWithoutSlot() {
        promise = "WHERE THE WORDS END ahead of a TOKEN: without a SLOT from there on: ERROR 5, there";
        GrammarLines g = furnished(2, w(70), w(71), or(72));
        error("ahead of two", g, say(g, 50, 21), 5, 2);
        error("ahead of the last", g, say(g, 50, 21, 70), 5, 3);
        asked("nothing is asked", g, 0);
        filled("nothing is filled", g);
        due("ahead of none", say(g, 50, 21, 70, 72), 1);
    }

    private static void filledByJustOne() {
        promise = "there is just one thing that goes with it";
        int[] flags = {1, 2, 4, 9};
        for (int kind = 2; kind <= 5; kind++) {
            GrammarLines g = oneLine(kind);
            error("none goes with kind " + kind, g, say(g, 50), 16, 1);
            asked("none goes with kind " + kind, g, 16, kind);
            thingOf(g, 0, 20);
            thingOf(g, kind == 5 ? 1 : 9, 21);
            int it = thingOf(g, flags[kind - 2], 22);
            due("one goes with kind " + kind, say(g, 50), 1);
            slot("one goes with kind " + kind, g, 0, kind, it);
            filled("one goes with kind " + kind, g, 20000 + it);
            thingOf(g, flags[kind - 2], 23);
            error("two go with kind " + kind, g, say(g, 50), 16, 1);
            asked("two go with kind " + kind, g, 16, kind);
        }
        GrammarLines last = oneLine(2);
        for (int i = 0; i < 39; i++) {
            last.thing(0);
        }
        last.thing(1);
        due("the last of 40", say(last, 50), 1);
        filled("the last of 40", last, 20039);
    }

    private static void filledNotAmongTheThings() {
        promise = "and is not yet among the LINE'S things";
        GrammarLines g = oneLine(2, w(70), 2);
        thingOf(g, 1, 20);
        error("the only one is said", g, say(g, 50, 20), 16, 2);
        asked("the only one is said", g, 16, 2, 70);
        thingOf(g, 1, 21);
        due("one of two is said", say(g, 50, 20), 1);
        filled("one of two is said", g, 70, 20001);
        due("the other of two is said", say(g, 50, 21), 1);
        filled("the other of two is said", g, 70, 20000);
        thingOf(g, 1, 22);
        error("one of three is said", g, say(g, 50, 20), 16, 2);
        GrammarLines several = oneLine(6, w(70), 2);
        for (int i = 0; i < 3; i++) {
            thingOf(several, 1, 20 + i);
        }
        due("two of three are said", say(several, 50, 20, AND, 22), 1);
        filled("two of three are said", several, 70, 20001);
        error("all are said", several, say(several, 50, ALL), 16, 2);
        error("one of three, of several", several, say(several, 50, 21), 16, 2);
        GrammarLines topic = oneLine(9, w(70), 2);
        thingOf(topic, 1, 20);
        due("a topic's words are no things", say(topic, 50, 20), 1);
        filled("a topic's words are no things", topic, 70, 20000);
        GrammarLines number = oneLine(10, 2);
        thingOf(number, 1, 20);
        due("a number is no thing", say(number, 50, 10000), 1);
        filled("a number is no thing", number, 20000);
    }

    private static void filledNotFilledBefore() {
        promise = "(also those filled before)";
        GrammarLines g = oneLine(3, 2);
        thingOf(g, 2, 20);
        error("one for both", g, say(g, 50), 16, 1);
        asked("one for both", g, 16, 3);
        thingOf(g, 1, 21);
        due("one is left for the second", say(g, 50), 1);
        filled("one is left for the second", g, 20000, 20001);
        slot("the first", g, 0, 3, 0);
        slot("the second", g, 1, 2, 1);
        GrammarLines order = oneLine(2, 3);
        thingOf(order, 2, 20);
        thingOf(order, 1, 21);
        error("for each, in order: two go with the first", order, say(order, 50), 16, 1);
        asked("in order", order, 16, 2);
    }

    private static void filledWords() {
        promise = "all from there on is FILLED: SLOTS with these, WORDS with the first of theirs";
        GrammarLines all = oneLine(w(70), or(71), w(72), 3, w(73), w(74), or(75), 2);
        thingOf(all, 2, 20);
        thingOf(all, 1, 21);
        due("from the first token on", say(all, 50), 1);
        filled("from the first token on", all, 70, 72, 20000, 73, 74, 20001);
        command("no word comes into the command", all, 50);
        due("from the second on", say(all, 50, 71), 1);
        filled("from the second on", all, 72, 20000, 73, 74, 20001);
        due("from the slot on", say(all, 50, 71, 72), 1);
        filled("from the slot on", all, 20000, 73, 74, 20001);
        due("from behind the slot on", say(all, 50, 70, 72, 20), 1);
        filled("from behind the slot on", all, 73, 74, 20001);
        due("from the last on", say(all, 50, 70, 72, 20, 73, 75), 1);
        filled("from the last on", all, 20001);
        due("nothing lacks", say(all, 50, 70, 72, 20, 73, 75, 21), 1);
        filled("nothing lacks", all);
        GrammarLines behind = oneLine(2, w(70), w(71));
        thingOf(behind, 1, 20);
        due("words behind the last slot", say(behind, 50), 1);
        filled("words behind the last slot", behind, 20000, 70, 71);
        GrammarLines eight = oneLine(w(70), w(71), w(72), 3, w(73), w(74), w(75), 2);
        thingOf(eight, 2, 20);
        thingOf(eight, 1, 21);
        due("eight kinds", say(eight, 50), 1);
        filled("eight kinds", eight, 70, 71, 72, 20000, 73, 74, 75, 20001);
    }

    private static void notFilledIfOneIsOfAnotherKind() {
        promise = "If all SLOTS from there on are of 2 to 5";
        for (int kind = 2; kind <= 11; kind++) {
            GrammarLines g = oneLine(3, w(70), kind);
            thingOf(g, 2, 20);
            thingOf(g, kind == 5 ? 9 : 1, 21);
            boolean fills = kind == 2 || kind == 5;
            due("kind " + kind + " is behind", say(g, 50), fills ? 1 : 0);
            asked("kind " + kind + " is behind", g, fills ? 0 : 16, fills ? new int[0] : new int[] {3});
            GrammarLines ahead = oneLine(kind, w(70), 2);
            thingOf(ahead, kind == 5 ? 9 : kind == 4 ? 4 : 2, 20);
            ahead.custom(0, 20, 1);
            thingOf(ahead, 1, 21);
            due("kind " + kind + " is said", say(ahead, 50, kind == 10 ? 10001 : 20), kind <= 8 ? 1 : 0);
        }
    }

    private static void notFilledInPart() {
        promise = "Else ERROR 16, there: the first SLOT from there on LACKS";
        GrammarLines g = oneLine(2, w(70), 5);
        thingOf(g, 1, 20);
        error("the first could be filled, the second not", g, say(g, 50), 16, 1);
        asked("the first lacks", g, 16, 2);
        filled("nothing is filled", g);
        noSlot("no slot", g, 0);
        error("the second lacks", g, say(g, 50, 20), 16, 2);
        asked("the second lacks", g, 16, 5, 70);
    }

    private static void lackingSlotAndToldWords() {
        promise = "the first words of the WORDS ahead of it are TOLD";
        GrammarLines none = oneLine(10, w(70));
        error("no words", none, say(none, 50), 16, 1);
        asked("no words", none, 16, 10);
        GrammarLines seven = oneLine(w(70), w(71), w(72), w(73), w(74), w(75), w(76), 10);
        error("seven words", seven, say(seven, 50), 16, 1);
        asked("seven words", seven, 16, 10, 70, 71, 72, 73, 74, 75, 76);
        error("the last of seven", seven, say(seven, 50, 70, 71, 72, 73, 74, 75), 16, 7);
        asked("the last of seven", seven, 16, 10, 76);
        error("none of seven", seven, say(seven, 50, 70, 71, 72, 73, 74, 75, 76), 16, 8);
        asked("none of seven", seven, 16, 10);
        GrammarLines others = oneLine(w(70), or(71), or(72), w(73), or(74), 10, w(75));
        error("the first of several", others, say(others, 50), 16, 1);
        asked("the first of several", others, 16, 10, 70, 73);
        for (int kind = 2; kind <= 11; kind++) {
            GrammarLines g = oneLine(w(70), kind);
            error("kind " + kind + " lacks", g, say(g, 50), 16, 1);
            asked("kind " + kind + " lacks", g, 16, kind, 70);
        }
    }

    // ---- a command is tried ----

    private static void verbOfNone() {
        promise = "ERROR 2, place 0, if its word 0 is none of a VERB";
        GrammarLines g = oneLine(9);
        for (int word : new int[] {AND, BUT, ALL, COMMA, 49, 51, 10050, 19999}) {
            error("word " + word, g, say(g, word, 90), 2, 0);
            due("no line is tried", g.told(4), 0);
            due("of no line", g.told(2), NONE);
            traced("no line", g, 0, NONE, NONE, NONE);
        }
        error("the verb at another place", g, say(g, 90, 50), 2, 0);
    }

    private static void verbWithoutLines() {
        promise = "or that has no LINES";
        GrammarLines g = new GrammarLines();
        g.verb(50);
        error("no lines at all", g, say(g, 50), 2, 0);
        g.verb(51);
        g.line(1, 1, false);
        error("lines of another", g, say(g, 50), 2, 0);
        due("the other", say(g, 51), 1);
        g.line(0, 2, false);
        due("a line at last", say(g, 50), 2);
    }

    private static void firstThatFits() {
        promise = "the VERB'S LINES in order up to the first that FITS: its ACTION";
        GrammarLines g = oneLine(w(70));
        lineOf(g, 0, 2, false, 9);
        lineOf(g, 0, 3, false, w(71));
        due("the first", say(g, 50, 70), 1);
        due("one is tried", g.told(4), 1);
        due("the second", say(g, 50, 71), 2);
        due("two are tried", g.told(4), 2);
        traced("the first", g, 0, 0, 5, 1);
        traced("the second", g, 1, 1, 0, NONE);
        traced("the third is not tried", g, 2, NONE, NONE, NONE);
        due("no error of one that fits not is told", g.told(0), 0);
        due("nor its place", g.told(1), NONE);
        GrammarLines ask = oneLine(2, 10);
        lineOf(ask, 0, 2, false, 2);
        thingOf(ask, 1, 20);
        due("one that fits goes ahead of asking", say(ask, 50, 20), 2);
        asked("nothing is asked", ask, 0);
    }

    /** For each error of a line on the command 50 25 70 26 ALL, the kinds that meet it, and its place. */
    private static final int[][] KINDS = {
        {w(71)}, {}, {w(25), 2}, {10}, {custom(0)}, {9, w(70), 5}, {9, w(70), 3}, {9, w(70), 4},
        {9, w(70), w(26), 2}, {9, w(70), w(26), 7}, {2}, {9, w(98), 2}};
    private static final int[] PLACES = {1, 1, 2, 1, 1, 3, 3, 3, 4, 4, 1, 5};

    private static GrammarLines worldOfErrors(int... errors) {
        GrammarLines g = new GrammarLines();
        g.verb(50);
        thingOf(g, 1, 25);
        thingOf(g, 1, 25);
        thingOf(g, 1, 26);
        for (int error : errors) {
            lineOf(g, 0, error, false, KINDS[error - 5]);
        }
        return g;
    }

    private static void greatestErrorOfTwo() {
        promise = "If none FITS: the greatest ERROR of them";
        for (int a = 5; a <= 16; a++) {
            for (int b = 5; b <= 16; b++) {
                GrammarLines g = worldOfErrors(a, b);
                int answer = say(g, 50, 25, 70, 26, ALL);
                int greatest = Math.max(a, b);
                error(a + " and " + b, g, answer, greatest, PLACES[greatest - 5]);
                due("the line of " + a + " and " + b, g.told(2), a >= b ? 0 : 1);
                traced("the first of " + a + " and " + b, g, 0, 0, a, PLACES[a - 5]);
                traced("the second of " + a + " and " + b, g, 1, 1, b, PLACES[b - 5]);
            }
        }
        GrammarLines all = worldOfErrors(5, 6, 7, 8, 9, 10, 11, 12, 13, 14, 15, 16);
        error("all of them", all, say(all, 50, 25, 70, 26, ALL), 16, 5);
        due("the last line", all.told(2), 11);
    }

    private static void sameErrorTwice() {
        promise = "of several the first one";
        GrammarLines g = oneLine(9, w(70));
        lineOf(g, 0, 2, false, w(71));
        error("5 and 5, the later place first", g, say(g, 50, 90), 5, 2);
        due("the first line", g.told(2), 0);
        GrammarLines which = oneLine(2, w(70), 9);
        lineOf(which, 0, 2, false, w(20), w(70), 2);
        thingOf(which, 1, 20, 21);
        thingOf(which, 1, 20, 22);
        error("15 and 15", which, say(which, 50, 20, 70, 20), 15, 1);
        due("the answer is to the first", which.answer(22), 1);
        command("the answer is to the first", which, 50, 20, 22, 70, 20);
        GrammarLines what = oneLine(w(70), 10);
        lineOf(what, 0, 2, false, w(71), custom(0));
        error("16 and 16", what, say(what, 50), 16, 1);
        asked("16 of the first", what, 16, 10, 70);
    }

    private static void linesOfOtherVerbs() {
        promise = "the VERB'S LINES in order: no other's";
        GrammarLines g = new GrammarLines();
        for (int i = 0; i < 3; i++) {
            g.verb(50 + i);
        }
        for (int i = 0; i < 9; i++) {
            lineOf(g, i % 3, 1 + i, false, w(70 + i));
        }
        due("the last of verb 1", say(g, 51, 77), 8);
        due("three are tried", g.told(4), 3);
        traced("the first of verb 1", g, 0, 1, 5, 1);
        traced("the second of verb 1", g, 1, 4, 5, 1);
        traced("the third of verb 1", g, 2, 7, 0, NONE);
        error("a line of another verb", g, say(g, 51, 76), 5, 1);
    }

    private static void reversedWithTwoSlots() {
        promise = "the other way round, if it is REVERSED and has two";
        GrammarLines g = new GrammarLines();
        g.verb(50);
        lineOf(g, 0, 1, true);
        lineOf(g, 0, 2, true, 10);
        lineOf(g, 0, 3, true, 10, w(70), 9);
        lineOf(g, 0, 4, false, 10, w(71), 9);
        due("none", say(g, 50), 1);
        noSlot("none", g, 0);
        noSlot("none", g, 1);
        due("one", say(g, 50, 10005), 2);
        slot("one", g, 0, 10, 5);
        noSlot("one", g, 1);
        due("two", say(g, 50, 10005, 70, 90, 91), 3);
        slot("two", g, 0, 9, 90, 91);
        slot("two", g, 1, 10, 5);
        due("not reversed", say(g, 50, 10005, 71, 90, 91), 4);
        slot("not reversed", g, 0, 10, 5);
        slot("not reversed", g, 1, 9, 90, 91);
        GrammarLines out = new GrammarLines();
        out.verb(50);
        lineOf(out, 0, 1, true, 8, w(70), 2);
        thingOf(out, 2, 20);
        thingOf(out, 2, 21);
        due("8 and the other, reversed", say(out, 50, ALL, 70, 20), 1);
        slot("the other", out, 0, 2, 0);
        slot("8 without it", out, 1, 8, 1);
        due("filled, reversed", say(out, 50, 21), 1);
        filled("filled, reversed", out, 70, 20000);
        slot("what was filled", out, 0, 2, 0);
        slot("what was said", out, 1, 8, 1);
    }
}
