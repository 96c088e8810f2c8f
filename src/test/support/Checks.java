import java.util.ArrayList;
import java.util.List;
import java.util.function.ToIntFunction;

/** What the tests share: the words of the document, small worlds, and checks that count what is not as due. */
class Checks {
    static final int AND = 1, THEN = 2, BUT = 3, ALL = 4, AGAIN = 5, OOPS = 6, COMMA = 7;
    static final int NONE = -1, UNKNOWN = -101, OUTSIDE = -102, STATE = -103, ROOM = -104;
    static final int LEAST = Integer.MIN_VALUE, MOST = Integer.MAX_VALUE;

    /** The promise, or the sentence of the document, that is looked at. */
    static String promise = "";
    private static int wrong = 0;
    private static int checks = 0;

    static void due(String what, int got, int want) {
        checks++;
        if (got != want) {
            wrong++;
            System.out.println(promise + ": " + what + " answered " + got + ", due is " + want);
        }
    }

    /** Ends the program, with exit code 1 if an answer was not as due. */
    static void end() {
        System.out.println(checks + " answers looked at, " + wrong + " are not as due");
        if (wrong != 0) {
            System.exit(1);
        }
    }

    // ---- small worlds ----

    /** A line of a verb with kinds; a kind of 1000 * of + kind has that 'of'. */
    static int lineOf(GrammarLines g, int verb, int action, boolean reversed, int... kinds) {
        int line = g.line(verb, action, reversed);
        for (int kind : kinds) {
            g.token(line, kind % 1000, kind / 1000);
        }
        return line;
    }

    static int w(int word) {
        return 1000 * word;
    }

    static int or(int word) {
        return 1000 * word + 1;
    }

    static int custom(int number) {
        return 1000 * number + 11;
    }

    static int thingOf(GrammarLines g, int flags, int... names) {
        int thing = g.thing(flags);
        for (int name : names) {
            g.name(thing, name);
        }
        return thing;
    }

    /** One verb, 50, with one line of action 1. */
    static GrammarLines oneLine(int... kinds) {
        GrammarLines g = new GrammarLines();
        g.verb(50);
        lineOf(g, 0, 1, false, kinds);
        return g;
    }

    /** Two lamps here (20, and 30 or 31), a held key 21, a worn hat 22, a creature bob 23, a far box 24. */
    static GrammarLines furnished(int... kinds) {
        GrammarLines g = oneLine(kinds);
        thingOf(g, 1, 20, 30);
        thingOf(g, 1, 20, 31);
        thingOf(g, 2, 21);
        thingOf(g, 4, 22);
        thingOf(g, 9, 23);
        thingOf(g, 0, 24);
        return g;
    }

    /** Puts words behind INPUT and parses. */
    static int say(GrammarLines g, int... words) {
        for (int w : words) {
            g.word(w);
        }
        return g.parse();
    }

    /** A row of words that begins with some and goes on with one of them up to a length. */
    static int[] longRow(int length, int goingOn, int... begin) {
        int[] row = new int[length];
        for (int i = 0; i < length; i++) {
            row[i] = i < begin.length ? begin[i] : goingOn;
        }
        return row;
    }

    // ---- checks of several answers ----

    static void error(String what, GrammarLines g, int answer, int error, int place) {
        due(what + ", its answer", answer, error >= 15 ? 0 : -error);
        due(what + ", told(0)", g.told(0), error);
        due(what + ", told(1)", g.told(1), place);
    }

    static void slot(String what, GrammarLines g, int slot, int kind, int... items) {
        due(what + ", kind of slot " + slot, g.object(slot, -2), kind);
        due(what + ", how many of slot " + slot, g.object(slot, -1), items.length);
        for (int i = 0; i < items.length; i++) {
            due(what + ", item " + i + " of slot " + slot, g.object(slot, i), items[i]);
        }
        due(what + ", behind the items of slot " + slot, g.object(slot, items.length), NONE);
    }

    static void noSlot(String what, GrammarLines g, int slot) {
        for (int k = -3; k <= 1; k++) {
            due(what + ", object(" + slot + ", " + k + ")", g.object(slot, k), NONE);
        }
    }

    static void asked(String what, GrammarLines g, int error, int... items) {
        due(what + ", asked(-1)", g.asked(-1), error);
        for (int i = 0; i < items.length; i++) {
            due(what + ", asked(" + i + ")", g.asked(i), items[i]);
        }
        due(what + ", behind what is asked", g.asked(items.length), NONE);
    }

    static void filled(String what, GrammarLines g, int... items) {
        for (int i = 0; i < items.length; i++) {
            due(what + ", filled(" + i + ")", g.filled(i), items[i]);
        }
        due(what + ", behind what is filled", g.filled(items.length), NONE);
    }

    static void command(String what, GrammarLines g, int... words) {
        due(what + ", words of the command", g.told(6), words.length);
        for (int i = 0; i < words.length; i++) {
            due(what + ", said(0, " + i + ")", g.said(0, i), words[i]);
        }
        due(what + ", behind the command", g.said(0, words.length), NONE);
    }

    static void input(String what, GrammarLines g, int... words) {
        due(what + ", words of INPUT", g.told(5), words.length);
        for (int i = 0; i < words.length; i++) {
            due(what + ", said(1, " + i + ")", g.said(1, i), words[i]);
        }
        due(what + ", behind INPUT", g.said(1, words.length), NONE);
    }

    static void traced(String what, GrammarLines g, int i, int line, int error, int place) {
        due(what + ", trace(" + i + ", 0)", g.trace(i, 0), line);
        due(what + ", trace(" + i + ", 1)", g.trace(i, 1), error);
        due(what + ", trace(" + i + ", 2)", g.trace(i, 2), place);
    }

    /** All that can be asked of an object without changing it. */
    static List<Integer> everything(GrammarLines g) {
        List<Integer> all = new ArrayList<>();
        for (int i = -3; i < 62; i++) {
            all.add(g.told(i));
            all.add(g.said(0, i));
            all.add(g.said(1, i));
            all.add(g.asked(i));
            all.add(g.filled(i));
            all.add(g.object(0, i));
            all.add(g.object(1, i));
            all.add(g.trace(i, 0));
            all.add(g.trace(i, 1));
            all.add(g.trace(i, 2));
        }
        return all;
    }

    /** A call is refused, and what can be asked of the object is as it was. */
    static void refused(String what, GrammarLines g, ToIntFunction<GrammarLines> call, int want) {
        List<Integer> before = everything(g);
        due(what, call.applyAsInt(g), want);
        due(what + ", all is as it was", everything(g).equals(before) ? 1 : 0, 1);
    }
}
