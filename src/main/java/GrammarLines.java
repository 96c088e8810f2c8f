/**
 * Makes the words of a player to actions: each verb has lines of tokens, which are tried in order on a command.
 * All room is taken when the object is made; no call makes an object or an array.
 */
public final class GrammarLines {
    public static final int NONE = -1, UNKNOWN = -101, OUTSIDE = -102, STATE = -103, ROOM = -104;

    // words
    private static final int AND = 1, THEN = 2, BUT = 3, ALL = 4, AGAIN = 5, OOPS = 6, COMMA = 7;
    private static final int FIRST_PLAIN = 10, LAST_PLAIN = 9999, FIRST_NUMBER = 10000, LAST_NUMBER = 19999;

    // kinds of tokens
    private static final int WORD = 0, OTHER_WORD = 1, NOUN = 2, HELD = 3, WORN = 4, CREATURE = 5;
    private static final int SEVERAL = 6, SEVERAL_HELD = 7, SEVERAL_BUT_OTHER = 8, TOPIC = 9, NUMBER = 10, CUSTOM = 11;

    // errors
    private static final int NO_WORDS = 1, NO_VERB = 2, NO_AGAIN = 3, NO_OOPS = 4, OTHER_WORD_DUE = 5, WORDS_LEFT = 6;
    private static final int NO_PHRASE = 7, NO_NUMBER = 8, NO_VALUE = 9, NO_CREATURE = 10, NOT_HELD = 11, NOT_WORN = 12;
    private static final int ONE_ONLY = 13, NOTHING_LEFT = 14, WHICH = 15, WHAT = 16;

    // flags of things
    private static final int HERE_FLAG = 1, HELD_FLAG = 2, WORN_FLAG = 4, CREATURE_FLAG = 8, ALL_FLAGS = 15;

    // limits
    private static final int MOST_THINGS = 40, MOST_NAMES = 4, MOST_VERBS = 20, MOST_VERB_WORDS = 60, MOST_LINES = 60;
    private static final int MOST_KINDS = 8, MOST_SLOTS = 2, MOST_PAIRS = 40, MOST_WORDS = 60;
    private static final int LAST_ACTION = 9999, LAST_VALUE = 9999, LAST_CUSTOM = 9;

    private static final int FILLED_THING = 20000;

    private final Things things;
    private final Verbs verbs;
    private final Lines lines;
    private final Values values;
    private final Row input;
    private final Row command;
    private final Row taken;
    private final Row done;
    private final Phrase addressee;
    private final Trial trial;
    private final Report report;
    private int recipient;
    private int doneTo;

    public GrammarLines() {
        things = new Things();
        verbs = new Verbs();
        lines = new Lines();
        values = new Values();
        input = new Row(MOST_WORDS);
        command = new Row(MOST_WORDS);
        taken = new Row(MOST_WORDS);
        done = new Row(MOST_WORDS);
        addressee = new Phrase(things);
        trial = new Trial(things, lines, values, command);
        report = new Report();
        recipient = NONE;
        doneTo = NONE;
    }

    public int verb(int word) {
        if (!mayBeVerbWord(word)) {
            return OUTSIDE;
        }
        if (verbs.isFull() || verbs.hasAllWords()) {
            return ROOM;
        }
        return verbs.add(word);
    }

    public int like(int verb, int word) {
        if (!verbs.has(verb)) {
            return UNKNOWN;
        }
        if (!mayBeVerbWord(word)) {
            return OUTSIDE;
        }
        if (verbs.hasAllWords()) {
            return ROOM;
        }
        return verbs.addWord(verb, word);
    }

    public int line(int verb, int action, boolean reversed) {
        if (!verbs.has(verb)) {
            return UNKNOWN;
        }
        if (action < 1 || action > LAST_ACTION) {
            return OUTSIDE;
        }
        if (lines.isFull()) {
            return ROOM;
        }
        return lines.add(verb, action, reversed);
    }

    public int token(int line, int kind, int of) {
        if (!lines.has(line)) {
            return UNKNOWN;
        }
        if (!mayBeToken(kind, of)) {
            return OUTSIDE;
        }
        if (!lines.allows(line, kind)) {
            return STATE;
        }
        if (lines.kindsOf(line) >= MOST_KINDS) {
            return ROOM;
        }
        return lines.addKind(line, kind, of);
    }

    public int thing(int flags) {
        if (!mayBeFlags(flags)) {
            return OUTSIDE;
        }
        if (things.isFull()) {
            return ROOM;
        }
        return things.add(flags);
    }

    public int name(int thing, int word) {
        if (!things.has(thing)) {
            return UNKNOWN;
        }
        if (!isPlainWord(word)) {
            return OUTSIDE;
        }
        if (!things.isNamed(thing, word) && things.namesOf(thing) >= MOST_NAMES) {
            return ROOM;
        }
        return things.addName(thing, word);
    }

    public int flags(int thing, int flags) {
        if (!things.has(thing)) {
            return UNKNOWN;
        }
        if (!mayBeFlags(flags)) {
            return OUTSIDE;
        }
        return things.changeFlags(thing, flags);
    }

    public int custom(int c, int word, int value) {
        boolean wordFits = word >= FIRST_PLAIN && word <= LAST_NUMBER;
        if (c < 0 || c > LAST_CUSTOM || !wordFits || value < 0 || value > LAST_VALUE) {
            return OUTSIDE;
        }
        if (values.find(c, word) == NONE && values.count() >= MOST_PAIRS) {
            return ROOM;
        }
        return values.put(c, word, value);
    }

    public int word(int w) {
        if (!isWord(w)) {
            return OUTSIDE;
        }
        if (input.size() >= MOST_WORDS) {
            return ROOM;
        }
        input.add(w);
        return input.size();
    }

    public int clear() {
        int had = input.size();
        input.empty();
        return had;
    }

    public int parse() {
        int to = takeOrder();
        takeCommand();
        int error = chooseCommand(to);
        if (error == 0) {
            return tryCommand();
        }
        report.begin();
        report.fail(error, NONE, NONE);
        input.empty();
        return -error;
    }

    public int answer(int w) {
        if (!isWord(w)) {
            return OUTSIDE;
        }
        if (!report.isAsked()) {
            return STATE;
        }
        if (verbs.find(w) != NONE) {
            beginAnew(w);
            return tryCommand();
        }
        int told = report.error == WHAT ? report.question.size() - 1 : 0;
        if (command.size() + told + 1 > MOST_WORDS) {
            return ROOM;
        }
        putAnswer(w, told);
        return tryCommand();
    }

    public int object(int slot, int k) {
        if (slot < 0 || slot >= MOST_SLOTS || report.action == NONE) {
            return NONE;
        }
        boolean swapped = lines.isReversed(report.line) && trial.slotsTaken() == MOST_SLOTS;
        boolean isFirst = swapped ? slot == 1 : slot == 0;
        Slot wanted = isFirst ? trial.first : trial.second;
        if (wanted.kind == NONE) {
            return NONE;
        }
        if (k == -2) {
            return wanted.kind;
        }
        return k == -1 ? wanted.items.size() : wanted.items.at(k);
    }

    public int asked(int k) {
        if (k == -1) {
            return report.isAsked() ? report.error : 0;
        }
        return report.isAsked() ? report.question.at(k) : NONE;
    }

    public int filled(int k) {
        return report.action == NONE ? NONE : trial.filled.at(k);
    }

    public int told(int what) {
        switch (what) {
            case 0: return report.error;
            case 1: return report.place;
            case 2: return report.line;
            case 3: return recipient;
            case 4: return report.triedLines.size();
            case 5: return input.size();
            case 6: return command.size();
            case 7: return verbs.count();
            case 8: return lines.count();
            case 9: return things.count();
            case 10: return values.count();
            default: return NONE;
        }
    }

    public int trace(int i, int what) {
        switch (what) {
            case 0: return report.triedLines.at(i);
            case 1: return report.triedErrors.at(i);
            case 2: return report.triedPlaces.at(i);
            default: return NONE;
        }
    }

    public int said(int which, int i) {
        if (which == 0) {
            return command.at(i);
        }
        return which == 1 ? input.at(i) : NONE;
    }

    private static boolean isPlainWord(int w) {
        return w >= FIRST_PLAIN && w <= LAST_PLAIN;
    }

    private static boolean isWord(int w) {
        return (w >= AND && w <= COMMA) || (w >= FIRST_PLAIN && w <= LAST_NUMBER);
    }

    private static boolean isJoin(int w) {
        return w == AND || w == COMMA;
    }

    private static boolean isSlot(int kind) {
        return kind >= NOUN && kind <= CUSTOM;
    }

    private static boolean isOfOneThing(int kind) {
        return kind >= NOUN && kind <= CREATURE;
    }

    private static boolean mayBeFlags(int flags) {
        return flags >= 0 && flags <= ALL_FLAGS;
    }

    private static boolean mayBeToken(int kind, int of) {
        if (kind < WORD || kind > CUSTOM) {
            return false;
        }
        if (kind == WORD || kind == OTHER_WORD) {
            return isPlainWord(of);
        }
        return kind != CUSTOM || (of >= 0 && of <= LAST_CUSTOM);
    }

    private boolean mayBeVerbWord(int word) {
        return isPlainWord(word) && verbs.find(word) == NONE;
    }

    /** Takes the creature that is spoken to off INPUT, if there is one, and answers it. */
    private int takeOrder() {
        if (!addressee.find(input, 0) || Long.bitCount(addressee.its) != 1) {
            return NONE;
        }
        boolean creature = (addressee.its & things.creatures) != 0;
        int comma = addressee.end;
        if (!creature || input.at(comma) != COMMA || input.size() <= comma + 1) {
            return NONE;
        }
        input.dropFirst(comma + 1);
        return things.firstOf(addressee.its);
    }

    /** Takes the next command off INPUT, with what ends it. */
    private void takeCommand() {
        taken.empty();
        int end = 0;
        while (end < input.size() && !endsCommand(end)) {
            taken.add(input.at(end));
            end++;
        }
        input.dropFirst(end + 1);
    }

    private boolean endsCommand(int place) {
        int w = input.at(place);
        return w == THEN || (isJoin(w) && verbs.find(input.at(place + 1)) != NONE);
    }

    /** Makes COMMAND and its recipient of what was taken; answers the error of that, or 0. */
    private int chooseCommand(int to) {
        boolean again = taken.size() == 1 && taken.at(0) == AGAIN;
        boolean oops = taken.size() == 2 && taken.at(0) == OOPS;
        // An action and the errors 1, 3, 4 have no place: then no word stands there.
        if (oops && command.at(report.place) != NONE) {
            command.put(report.place, taken.at(1));
            return 0;
        }
        if (again && done.size() > 0) {
            command.become(done);
            recipient = doneTo;
            return 0;
        }
        command.become(taken);
        recipient = to;
        if (taken.size() == 0) {
            return NO_WORDS;
        }
        return again ? NO_AGAIN : oops ? NO_OOPS : 0;
    }

    /** Makes a verb's word the COMMAND: alone it is no order, AGAIN or OOPS, so that parse() would take just this. */
    private void beginAnew(int w) {
        input.empty();
        command.empty();
        command.add(w);
        recipient = NONE;
    }

    /** Puts the answer into COMMAND: behind the phrase that was asked of, or behind all and the words told. */
    private void putAnswer(int w, int told) {
        if (report.error == WHICH) {
            command.insert(report.phraseEnd, w);
            return;
        }
        for (int i = 1; i <= told; i++) {
            command.add(report.question.at(i));
        }
        command.add(w);
    }

    private int tryCommand() {
        report.begin();
        int verb = verbs.find(command.at(0));
        for (int line = 0; line < lines.count() && report.action == NONE; line++) {
            if (verb != NONE && lines.verbOf(line) == verb) {
                trial.tryLine(line);
                report.note(trial, lines.actionOf(line));
            }
        }
        if (report.triedLines.size() == 0) {
            report.fail(NO_VERB, 0, NONE);
        }
        if (report.action != NONE) {
            done.become(command);
            doneTo = recipient;
            return report.action;
        }
        if (report.isAsked()) {
            return 0;
        }
        input.empty();
        return -report.error;
    }

    /** A row of numbers within a room that is taken once. */
    private static final class Row {
        private final int[] items;
        private int size;

        Row(int room) {
            items = new int[Math.max(room, 0)];
        }

        int size() {
            return size;
        }

        int at(int i) {
            return i >= 0 && i < size ? items[i] : NONE;
        }

        void add(int item) {
            if (size >= 0 && size < items.length) {
                items[size] = item;
                size++;
            }
        }

        void put(int i, int item) {
            if (i >= 0 && i < size) {
                items[i] = item;
            }
        }

        void insert(int place, int item) {
            if (place < 0 || place > size || size >= items.length) {
                return;
            }
            for (int i = size; i > place; i--) {
                items[i] = items[i - 1];
            }
            items[place] = item;
            size++;
        }

        void dropFirst(int many) {
            int dropped = Math.max(0, Math.min(many, size));
            for (int i = dropped; i < size; i++) {
                items[i - dropped] = items[i];
            }
            size -= dropped;
        }

        void empty() {
            size = 0;
        }

        void become(Row other) {
            empty();
            for (int i = 0; i < other.size; i++) {
                add(other.items[i]);
            }
        }

        void addThings(long set) {
            for (int i = 0; i < MOST_THINGS; i++) {
                if ((set >> i & 1L) != 0) {
                    add(i);
                }
            }
        }
    }

    /** The things; a set of them is a long, thing i being its bit i. */
    private static final class Things {
        private final int[] flagsOf = new int[MOST_THINGS];
        private final int[] nameCounts = new int[MOST_THINGS];
        private final int[] names = new int[MOST_THINGS * MOST_NAMES];
        private int count;
        private long inScope;
        private long held;
        private long worn;
        private long creatures;

        int count() {
            return count;
        }

        boolean has(int thing) {
            return thing >= 0 && thing < count;
        }

        boolean isFull() {
            return count >= MOST_THINGS;
        }

        int add(int flags) {
            if (isFull()) {
                return NONE;
            }
            count++;
            changeFlags(count - 1, flags);
            return count - 1;
        }

        /** Answers what the flags were. */
        int changeFlags(int thing, int flags) {
            if (!has(thing)) {
                return NONE;
            }
            int were = flagsOf[thing];
            flagsOf[thing] = flags;
            inScope = withAnyOf(HERE_FLAG | HELD_FLAG | WORN_FLAG);
            held = withAnyOf(HELD_FLAG | WORN_FLAG);
            worn = withAnyOf(WORN_FLAG);
            creatures = withAnyOf(CREATURE_FLAG);
            return were;
        }

        private long withAnyOf(int flags) {
            long set = 0;
            for (int i = 0; i < count; i++) {
                if ((flagsOf[i] & flags) != 0) {
                    set |= 1L << i;
                }
            }
            return set;
        }

        int namesOf(int thing) {
            return has(thing) ? nameCounts[thing] : 0;
        }

        boolean isNamed(int thing, int word) {
            for (int i = 0; has(thing) && i < nameCounts[thing]; i++) {
                if (names[thing * MOST_NAMES + i] == word) {
                    return true;
                }
            }
            return false;
        }

        int addName(int thing, int word) {
            if (has(thing) && !isNamed(thing, word) && nameCounts[thing] < MOST_NAMES) {
                names[thing * MOST_NAMES + nameCounts[thing]] = word;
                nameCounts[thing]++;
            }
            return namesOf(thing);
        }

        /** Those of a set that have a word as a name. */
        long namedOf(long set, int word) {
            long left = 0;
            for (int i = 0; i < count; i++) {
                boolean among = (set >> i & 1L) != 0;
                for (int k = 0; among && k < nameCounts[i]; k++) {
                    if (names[i * MOST_NAMES + k] == word) {
                        left |= 1L << i;
                    }
                }
            }
            return left;
        }

        /** Those that count where a phrase stands for a kind of one thing. */
        long countedFor(int kind) {
            switch (kind) {
                case HELD: return held;
                case WORN: return worn;
                case CREATURE: return creatures;
                default: return inScope;
            }
        }

        /** Those that may fill a kind of slot for which no words stand. */
        long fillersFor(int kind) {
            switch (kind) {
                case NOUN: return inScope & ~creatures;
                case HELD: return held & ~creatures;
                case WORN: return worn;
                case CREATURE: return inScope & creatures;
                default: return 0;
            }
        }

        /** Those that ALL stands for. */
        long allFor(int kind) {
            long some = kind == SEVERAL ? inScope & ~held : held & ~worn;
            return some & ~creatures;
        }

        int firstOf(long set) {
            for (int i = 0; i < count; i++) {
                if ((set >> i & 1L) != 0) {
                    return i;
                }
            }
            return NONE;
        }
    }

    /** The verbs and their words. */
    private static final class Verbs {
        private final Row words = new Row(MOST_VERB_WORDS);
        private final Row owners = new Row(MOST_VERB_WORDS);
        private int count;

        int count() {
            return count;
        }

        boolean has(int verb) {
            return verb >= 0 && verb < count;
        }

        boolean isFull() {
            return count >= MOST_VERBS;
        }

        boolean hasAllWords() {
            return words.size() >= MOST_VERB_WORDS;
        }

        int add(int word) {
            count++;
            addWord(count - 1, word);
            return count - 1;
        }

        int addWord(int verb, int word) {
            words.add(word);
            owners.add(verb);
            int many = 0;
            for (int i = 0; i < owners.size(); i++) {
                if (owners.at(i) == verb) {
                    many++;
                }
            }
            return many;
        }

        /** The verb that has a word, or NONE. */
        int find(int word) {
            for (int i = 0; i < words.size(); i++) {
                if (words.at(i) == word) {
                    return owners.at(i);
                }
            }
            return NONE;
        }
    }

    /** The lines of all verbs, with the kinds of their tokens. */
    private static final class Lines {
        private final int[] verbs = new int[MOST_LINES];
        private final int[] actions = new int[MOST_LINES];
        private final boolean[] reversals = new boolean[MOST_LINES];
        private final int[] kindCounts = new int[MOST_LINES];
        private final int[] kinds = new int[MOST_LINES * MOST_KINDS];
        private final int[] ofs = new int[MOST_LINES * MOST_KINDS];
        private int count;

        int count() {
            return count;
        }

        boolean has(int line) {
            return line >= 0 && line < count;
        }

        boolean isFull() {
            return count >= MOST_LINES;
        }

        int add(int verb, int action, boolean reversed) {
            if (isFull()) {
                return NONE;
            }
            verbs[count] = verb;
            actions[count] = action;
            reversals[count] = reversed;
            count++;
            return count - 1;
        }

        int verbOf(int line) {
            return has(line) ? verbs[line] : NONE;
        }

        int actionOf(int line) {
            return has(line) ? actions[line] : NONE;
        }

        boolean isReversed(int line) {
            return has(line) && reversals[line];
        }

        int kindsOf(int line) {
            return has(line) ? kindCounts[line] : 0;
        }

        int kindAt(int line, int k) {
            return has(line) && k >= 0 && k < kindCounts[line] ? kinds[line * MOST_KINDS + k] : NONE;
        }

        int ofAt(int line, int k) {
            return has(line) && k >= 0 && k < kindCounts[line] ? ofs[line * MOST_KINDS + k] : NONE;
        }

        boolean allows(int line, int kind) {
            int ahead = kindAt(line, kindsOf(line) - 1);
            if (kind == OTHER_WORD) {
                return ahead == WORD || ahead == OTHER_WORD;
            }
            if (ahead == TOPIC && kind != WORD) {
                return false;
            }
            return !isSlot(kind) || slotsOf(line) < MOST_SLOTS;
        }

        int slotsOf(int line) {
            int many = 0;
            for (int k = 0; k < kindsOf(line); k++) {
                if (isSlot(kindAt(line, k))) {
                    many++;
                }
            }
            return many;
        }

        int addKind(int line, int kind, int of) {
            if (has(line) && kindCounts[line] < MOST_KINDS) {
                int at = line * MOST_KINDS + kindCounts[line];
                kinds[at] = kind;
                ofs[at] = of;
                kindCounts[line]++;
            }
            return kindsOf(line);
        }

        /** Where the first slot from k on is, or NONE. */
        int slotFrom(int line, int k) {
            for (int i = k; i < kindsOf(line); i++) {
                if (isSlot(kindAt(line, i))) {
                    return i;
                }
            }
            return NONE;
        }

        /** Whether a word is one of those of the word token that begins at k. */
        boolean takes(int line, int k, int word) {
            if (kindAt(line, k) != WORD) {
                return false;
            }
            boolean same = true;
            for (int i = k; same && i < kindsOf(line); i++) {
                if (ofAt(line, i) == word) {
                    return true;
                }
                same = kindAt(line, i + 1) == OTHER_WORD;
            }
            return false;
        }
    }

    /** The values of words for custom numbers. */
    private static final class Values {
        private final Row customs = new Row(MOST_PAIRS);
        private final Row words = new Row(MOST_PAIRS);
        private final Row values = new Row(MOST_PAIRS);

        int count() {
            return values.size();
        }

        private int indexOf(int custom, int word) {
            for (int i = 0; i < words.size(); i++) {
                if (customs.at(i) == custom && words.at(i) == word) {
                    return i;
                }
            }
            return NONE;
        }

        /** The value, or NONE. */
        int find(int custom, int word) {
            return values.at(indexOf(custom, word));
        }

        int put(int custom, int word, int value) {
            int index = indexOf(custom, word);
            if (index == NONE) {
                customs.add(custom);
                words.add(word);
                values.add(value);
            } else {
                values.put(index, value);
            }
            return count();
        }
    }

    /** The words that name things in scope at a place of a row. */
    private static final class Phrase {
        private final Things things;
        private long its;
        private int end;

        Phrase(Things things) {
            this.things = things;
        }

        boolean find(Row words, int place) {
            its = things.inScope;
            end = place;
            for (int i = place; i < words.size(); i++) {
                long left = things.namedOf(its, words.at(i));
                if (left == 0) {
                    break;
                }
                its = left;
                end = i + 1;
            }
            return end > place;
        }
    }

    /** What a slot of a line has taken. */
    private static final class Slot {
        private final Row items = new Row(MOST_WORDS);
        private int kind = NONE;
        private int place = NONE;
        private long things;

        void empty() {
            items.empty();
            kind = NONE;
            place = NONE;
            things = 0;
        }
    }

    /** One line tried on the command: what it took, or its error. */
    private static final class Trial {
        private final Things things;
        private final Lines lines;
        private final Values values;
        private final Row words;
        private final Phrase phrase;
        private final Slot first = new Slot();
        private final Slot second = new Slot();
        private final Row filled = new Row(MOST_KINDS);
        private final Row question = new Row(MOST_THINGS);
        private int line = NONE;
        private int cursor;
        private int error;
        private int place = NONE;

        Trial(Things things, Lines lines, Values values, Row words) {
            this.things = things;
            this.lines = lines;
            this.values = values;
            this.words = words;
            phrase = new Phrase(things);
        }

        int slotsTaken() {
            return (first.kind == NONE ? 0 : 1) + (second.kind == NONE ? 0 : 1);
        }

        void tryLine(int ofLine) {
            begin(ofLine);
            for (int k = 0; k < lines.kindsOf(line) && error == 0; k++) {
                int kind = lines.kindAt(line, k);
                if (kind == OTHER_WORD) {
                    continue;
                }
                if (cursor >= words.size()) {
                    fillOrAsk(k);
                    break;
                }
                // Not a method of its own: the calls below this one go deep enough.
                if (kind == WORD) {
                    takeWord(k);
                } else if (kind == TOPIC) {
                    takeTopic(k);
                } else if (kind == NUMBER) {
                    takeNumber();
                } else if (kind == CUSTOM) {
                    takeCustom(lines.ofAt(line, k));
                } else if (isOfOneThing(kind)) {
                    takeOne(kind);
                } else if (words.at(cursor) == ALL) {
                    takeAll(kind);
                } else {
                    takeList(kind);
                }
            }
            if (error == 0) {
                finish();
            }
        }

        private void begin(int ofLine) {
            line = ofLine;
            cursor = 1;
            error = 0;
            place = NONE;
            first.empty();
            second.empty();
            filled.empty();
            question.empty();
        }

        private void fail(int withError, int atPlace) {
            error = withError;
            place = atPlace;
        }

        private Slot openSlot(int kind) {
            Slot slot = first.kind == NONE ? first : second;
            slot.kind = kind;
            slot.place = cursor;
            return slot;
        }

        private void takeWord(int k) {
            if (lines.takes(line, k, words.at(cursor))) {
                cursor++;
            } else {
                fail(OTHER_WORD_DUE, cursor);
            }
        }

        private void takeTopic(int k) {
            Slot slot = openSlot(TOPIC);
            int began = cursor;
            while (cursor < words.size() && (cursor == began || !lines.takes(line, k + 1, words.at(cursor)))) {
                slot.items.add(words.at(cursor));
                cursor++;
            }
        }

        private void takeNumber() {
            int w = words.at(cursor);
            if (w < FIRST_NUMBER || w > LAST_NUMBER) {
                fail(NO_NUMBER, cursor);
                return;
            }
            openSlot(NUMBER).items.add(w - FIRST_NUMBER);
            cursor++;
        }

        private void takeCustom(int custom) {
            int value = values.find(custom, words.at(cursor));
            if (value == NONE) {
                fail(NO_VALUE, cursor);
                return;
            }
            openSlot(CUSTOM).items.add(value);
            cursor++;
        }

        private void takeOne(int kind) {
            Slot slot = openSlot(kind);
            slot.things = findOne(kind);
            if (error == 0 && isJoin(words.at(cursor))) {
                fail(ONE_ONLY, cursor);
            }
        }

        /** The one thing of the phrase at the cursor, which goes behind it; else it fails and answers no thing. */
        private long findOne(int kind) {
            if (words.at(cursor) == ALL) {
                fail(ONE_ONLY, cursor);
                return 0;
            }
            if (!phrase.find(words, cursor)) {
                fail(NO_PHRASE, cursor);
                return 0;
            }
            long counted = phrase.its & things.countedFor(kind);
            if (counted == 0) {
                fail(kind == HELD ? NOT_HELD : kind == WORN ? NOT_WORN : NO_CREATURE, cursor);
                return 0;
            }
            if (Long.bitCount(counted) > 1) {
                question.addThings(counted);
                fail(WHICH, cursor);
                return 0;
            }
            cursor = phrase.end;
            return counted;
        }

        private void takeAll(int kind) {
            Slot slot = openSlot(kind);
            slot.things = things.allFor(kind);
            cursor++;
            boolean more = words.at(cursor) == BUT;
            for (int i = 0; more && i < MOST_WORDS; i++) {
                cursor++;
                if (!phrase.find(words, cursor)) {
                    fail(NO_PHRASE, cursor);
                    return;
                }
                slot.things &= ~phrase.its;
                cursor = phrase.end;
                more = isJoin(words.at(cursor));
            }
            if (slot.things == 0) {
                fail(NOTHING_LEFT, slot.place);
            }
        }

        private void takeList(int kind) {
            Slot slot = openSlot(kind);
            int each = kind == SEVERAL ? NOUN : HELD;
            boolean more = true;
            for (int i = 0; more && i < MOST_WORDS; i++) {
                slot.things |= findOne(each);
                more = error == 0 && isJoin(words.at(cursor));
                if (more) {
                    cursor++;
                }
            }
        }

        private void fillOrAsk(int k) {
            int lacking = lines.slotFrom(line, k);
            if (lacking == NONE) {
                fail(OTHER_WORD_DUE, cursor);
            } else if (!fillFrom(k)) {
                question.add(lines.kindAt(line, lacking));
                for (int i = k; i < lacking; i++) {
                    if (lines.kindAt(line, i) == WORD) {
                        question.add(lines.ofAt(line, i));
                    }
                }
                fail(WHAT, cursor);
            }
        }

        private boolean fillFrom(int k) {
            for (int i = k; i < lines.kindsOf(line); i++) {
                int kind = lines.kindAt(line, i);
                if (kind == WORD) {
                    filled.add(lines.ofAt(line, i));
                } else if (isSlot(kind)) {
                    long fillers = things.fillersFor(kind) & ~(first.things | second.things);
                    if (Long.bitCount(fillers) != 1) {
                        return false;
                    }
                    openSlot(kind).things = fillers;
                    filled.add(FILLED_THING + things.firstOf(fillers));
                }
            }
            return true;
        }

        private void finish() {
            if (cursor < words.size()) {
                fail(WORDS_LEFT, cursor);
                return;
            }
            takeOut(first, second);
            takeOut(second, first);
            first.items.addThings(first.things);
            second.items.addThings(second.things);
        }

        private void takeOut(Slot several, Slot other) {
            if (several.kind != SEVERAL_BUT_OTHER || !isOfOneThing(other.kind)) {
                return;
            }
            several.things &= ~other.things;
            if (several.things == 0) {
                fail(NOTHING_LEFT, several.place);
            }
        }
    }

    /** What the latest parse() or answer() came to. */
    private static final class Report {
        private final Row triedLines = new Row(MOST_LINES);
        private final Row triedErrors = new Row(MOST_LINES);
        private final Row triedPlaces = new Row(MOST_LINES);
        private final Row question = new Row(MOST_THINGS);
        private int action = NONE;
        private int error;
        private int place = NONE;
        private int line = NONE;
        private int phraseEnd;

        void begin() {
            triedLines.empty();
            triedErrors.empty();
            triedPlaces.empty();
            question.empty();
            action = NONE;
            error = 0;
            place = NONE;
            line = NONE;
        }

        boolean isAsked() {
            return error == WHICH || error == WHAT;
        }

        void fail(int withError, int atPlace, int ofLine) {
            error = withError;
            place = atPlace;
            line = ofLine;
        }

        /** Notes a line that was tried: it fits, or its error may be the greatest so far. */
        void note(Trial trial, int ofAction) {
            triedLines.add(trial.line);
            triedErrors.add(trial.error);
            triedPlaces.add(trial.place);
            if (trial.error == 0) {
                action = ofAction;
                fail(0, NONE, trial.line);
            } else if (trial.error > error) {
                fail(trial.error, trial.place, trial.line);
                question.become(trial.question);
                phraseEnd = trial.phrase.end;
            }
        }
    }
}
