import java.util.ArrayList;
import java.util.HashMap;
import java.util.LinkedHashSet;
import java.util.List;
import java.util.Map;
import java.util.Random;
import java.util.Set;
import java.util.TreeSet;

/** Random runs of calls, each answer compared with that of a second program, written from the document by itself. */
public final class ModelTest {
    private static final int RUNS = 3000, SENTENCES = 40;

    /** An error of a line, thrown where it is met. */
    private static final class Fail extends RuntimeException {
        private static final long serialVersionUID = 1;
        final int error, place, phraseEnd;
        final transient List<Integer> question;

        Fail(int error, int place, List<Integer> question, int phraseEnd) {
            super(null, null, false, false);
            this.error = error;
            this.place = place;
            this.question = question;
            this.phraseEnd = phraseEnd;
        }

        Fail(int error, int place) {
            this(error, place, List.of(), -1);
        }
    }

    private static final class Thing {
        int flags;
        final Set<Integer> names = new LinkedHashSet<>();

        boolean worn() { return (flags & 4) != 0; }
        boolean held() { return (flags & 6) != 0; }
        boolean inScope() { return (flags & 7) != 0; }
        boolean creature() { return (flags & 8) != 0; }
    }

    private static final class Token {
        final int kind, of;
        final List<Integer> words = new ArrayList<>();

        Token(int kind, int of) {
            this.kind = kind;
            this.of = of;
            if (kind == 0) words.add(of);
        }

        boolean one() { return kind >= 2 && kind <= 5; }
        boolean slot() { return kind >= 2; }
    }

    private static final class Line {
        int number, verb, action, kinds;
        boolean reversed;
        final List<Token> tokens = new ArrayList<>();

        Token last() { return tokens.isEmpty() ? null : tokens.get(tokens.size() - 1); }
        long slots() { return tokens.stream().filter(Token::slot).count(); }
    }

    /** What a slot took: things for kinds 2 to 8, plain numbers for the others. */
    private static final class Taken {
        final int kind, began;
        TreeSet<Integer> things = new TreeSet<>();
        List<Integer> others = new ArrayList<>();

        Taken(int kind, int began) {
            this.kind = kind;
            this.began = began;
        }

        List<Integer> items() { return kind <= 8 ? new ArrayList<>(things) : others; }
    }

    private record Phrase(int end, TreeSet<Integer> things) { }

    /** The document again, without thrift. */
    private static final class Model {
        final Map<Integer, Integer> verbWords = new HashMap<>();
        int verbs;
        final List<Line> lines = new ArrayList<>();
        final List<Thing> things = new ArrayList<>();
        final Map<List<Integer>, Integer> customs = new HashMap<>();
        List<Integer> input = new ArrayList<>(), command = new ArrayList<>(), lastDone;
        int lastDoneTo = -1;
        int error, place = -1, line = -1, to = -1, phraseEnd = -1;
        boolean acted;
        List<Integer> question = List.of(), filled = List.of();
        List<Taken> slots = List.of();
        List<int[]> traced = new ArrayList<>();

        static boolean plain(int w) { return 10 <= w && w <= 9999; }
        static boolean any(int w) { return 1 <= w && w <= 7 || 10 <= w && w <= 19999; }

        int verb(int word) {
            if (!plain(word) || verbWords.containsKey(word)) return -102;
            if (verbs == 20 || verbWords.size() == 60) return -104;
            verbWords.put(word, verbs);
            return verbs++;
        }

        int like(int verb, int word) {
            if (verb < 0 || verb >= verbs) return -101;
            if (!plain(word) || verbWords.containsKey(word)) return -102;
            if (verbWords.size() == 60) return -104;
            verbWords.put(word, verb);
            return (int) verbWords.values().stream().filter(v -> v == verb).count();
        }

        int line(int verb, int action, boolean reversed) {
            if (verb < 0 || verb >= verbs) return -101;
            if (action < 1 || action > 9999) return -102;
            if (lines.size() == 60) return -104;
            Line l = new Line();
            l.number = lines.size();
            l.verb = verb;
            l.action = action;
            l.reversed = reversed;
            lines.add(l);
            return l.number;
        }

        int token(int line, int kind, int of) {
            if (line < 0 || line >= lines.size()) return -101;
            if (kind < 0 || kind > 11 || kind < 2 && !plain(of) || kind == 11 && (of < 0 || of > 9)) return -102;
            Line l = lines.get(line);
            Token last = l.last();
            if (kind == 1 && (last == null || last.kind != 0)) return -103;
            if (kind >= 2 && l.slots() == 2) return -103;
            if (kind != 0 && last != null && last.kind == 9) return -103;
            if (l.kinds == 8) return -104;
            if (kind == 1) last.words.add(of);
            else l.tokens.add(new Token(kind, of));
            return ++l.kinds;
        }

        int thing(int flags) {
            if (flags < 0 || flags > 15) return -102;
            if (things.size() == 40) return -104;
            Thing t = new Thing();
            t.flags = flags;
            things.add(t);
            return things.size() - 1;
        }

        int name(int thing, int word) {
            if (thing < 0 || thing >= things.size()) return -101;
            if (!plain(word)) return -102;
            Set<Integer> names = things.get(thing).names;
            if (!names.contains(word) && names.size() == 4) return -104;
            names.add(word);
            return names.size();
        }

        int flags(int thing, int flags) {
            if (thing < 0 || thing >= things.size()) return -101;
            if (flags < 0 || flags > 15) return -102;
            int were = things.get(thing).flags;
            things.get(thing).flags = flags;
            return were;
        }

        int custom(int c, int word, int value) {
            if (c < 0 || c > 9 || word < 10 || word > 19999 || value < 0 || value > 9999) return -102;
            if (!customs.containsKey(List.of(c, word)) && customs.size() == 40) return -104;
            customs.put(List.of(c, word), value);
            return customs.size();
        }

        int word(int w) {
            if (!any(w)) return -102;
            if (input.size() == 60) return -104;
            input.add(w);
            return input.size();
        }

        int clear() {
            int had = input.size();
            input = new ArrayList<>();
            return had;
        }

        int at(List<Integer> row, int i) { return i < 0 || i >= row.size() ? -1 : row.get(i); }
        boolean join(int w) { return w == 1 || w == 7; }

        Phrase phrase(List<Integer> words, int start) {
            Phrase best = null;
            for (int end = start + 1; end <= words.size(); end++) {
                TreeSet<Integer> having = new TreeSet<>();
                for (int t = 0; t < things.size(); t++) {
                    Thing thing = things.get(t);
                    if (thing.inScope() && thing.names.containsAll(words.subList(start, end))) having.add(t);
                }
                if (!having.isEmpty()) best = new Phrase(end, having);
            }
            return best;
        }

        int parse() {
            int goes = -1;
            Phrase who = phrase(input, 0);
            if (who != null && who.things.size() == 1 && things.get(who.things.first()).creature()
                    && at(input, who.end) == 7 && who.end + 1 < input.size()) {
                goes = who.things.first();
                input = new ArrayList<>(input.subList(who.end + 1, input.size()));
            }
            int end = input.size();
            for (int i = input.size() - 1; i >= 0; i--) {
                boolean cut = join(input.get(i)) && verbWords.containsKey(at(input, i + 1));
                if (input.get(i) == 2 || cut) end = i;
            }
            List<Integer> next = new ArrayList<>(input.subList(0, end));
            input = new ArrayList<>(input.subList(Math.min(end + 1, input.size()), input.size()));
            if (next.isEmpty()) return bare(1, next, goes);
            if (next.equals(List.of(5))) {
                return lastDone == null ? bare(3, next, goes) : attempt(new ArrayList<>(lastDone), lastDoneTo);
            }
            if (next.size() == 2 && next.get(0) == 6) {
                boolean mends = error != 0 && error != 1 && error != 3 && error != 4 && at(command, place) != -1;
                if (!mends) return bare(4, next, goes);
                List<Integer> mended = new ArrayList<>(command);
                mended.set(place, next.get(1));
                return attempt(mended, to);
            }
            return attempt(next, goes);
        }

        int bare(int error, List<Integer> next, int goes) {
            forget(next, goes);
            this.error = error;
            input.clear();
            return -error;
        }

        void forget(List<Integer> next, int goes) {
            command = next;
            to = goes;
            acted = false;
            error = 0;
            place = line = -1;
            question = filled = List.of();
            slots = List.of();
            traced = new ArrayList<>();
        }

        int answer(int w) {
            if (!any(w)) return -102;
            if (error != 15 && error != 16) return -103;
            if (verbWords.containsKey(w)) {
                input = new ArrayList<>(List.of(w));
                return parse();
            }
            List<Integer> longer = new ArrayList<>(command);
            if (error == 15) {
                longer.add(phraseEnd, w);
            } else {
                longer.addAll(question.subList(1, question.size()));
                longer.add(w);
            }
            return longer.size() > 60 ? -104 : attempt(longer, to);
        }

        int attempt(List<Integer> next, int goes) {
            forget(next, goes);
            Integer verb = verbWords.get(at(command, 0));
            Fail worst = null;
            for (Line l : lines) {
                if (verb == null || l.verb != verb) continue;
                try {
                    fit(l);
                    traced.add(new int[] {l.number, 0, -1});
                    acted = true;
                    line = l.number;
                    lastDone = command;
                    lastDoneTo = to;
                    return l.action;
                } catch (Fail f) {
                    traced.add(new int[] {l.number, f.error, f.place});
                    if (worst == null || f.error > worst.error) {
                        worst = f;
                        line = l.number;
                    }
                }
            }
            if (worst == null) worst = new Fail(2, 0);
            error = worst.error;
            place = worst.place;
            question = worst.question;
            phraseEnd = worst.phraseEnd;
            if (error >= 15) return 0;
            input.clear();
            return -error;
        }

        void fit(Line l) {
            List<Taken> got = new ArrayList<>();
            List<Integer> fill = new ArrayList<>();
            int at = 1;
            for (int i = 0; i < l.tokens.size(); i++) {
                if (at == command.size()) {
                    fill(l, i, at, got, fill);
                    break;
                }
                Token next = i + 1 < l.tokens.size() ? l.tokens.get(i + 1) : null;
                at = take(l.tokens.get(i), next, at, got);
            }
            if (at < command.size()) throw new Fail(6, at);
            for (int i = 0; got.size() == 2 && i < 2; i++) {
                Taken other = got.get(1 - i);
                if (got.get(i).kind == 8 && other.kind >= 2 && other.kind <= 5) {
                    got.get(i).things.removeAll(other.things);
                    if (got.get(i).things.isEmpty()) throw new Fail(14, got.get(i).began);
                }
            }
            if (l.reversed && got.size() == 2) got.add(got.remove(0));
            slots = got;
            filled = fill;
        }

        void fill(Line l, int from, int at, List<Taken> got, List<Integer> fill) {
            List<Token> rest = l.tokens.subList(from, l.tokens.size());
            if (rest.stream().noneMatch(Token::slot)) throw new Fail(5, at);
            boolean can = rest.stream().filter(Token::slot).allMatch(Token::one);
            for (Token t : rest) {
                if (!can) break;
                if (!t.slot()) {
                    fill.add(t.words.get(0));
                    continue;
                }
                List<Integer> go = new ArrayList<>();
                for (int i = 0; i < things.size(); i++) {
                    Thing x = things.get(i);
                    boolean goes = switch (t.kind) {
                        case 2 -> x.inScope() && !x.creature();
                        case 3 -> x.held() && !x.creature();
                        case 4 -> x.worn();
                        default -> x.inScope() && x.creature();
                    };
                    int number = i;
                    if (goes && got.stream().noneMatch(s -> s.things.contains(number))) go.add(i);
                }
                can = go.size() == 1;
                Taken s = new Taken(t.kind, at);
                s.things.addAll(go);
                got.add(s);
                if (can) fill.add(20000 + go.get(0));
            }
            if (can) return;
            List<Integer> ask = new ArrayList<>();
            for (Token t : rest) {
                if (t.slot()) {
                    ask.add(0, t.kind);
                    break;
                }
                ask.add(t.words.get(0));
            }
            throw new Fail(16, at, ask, -1);
        }

        int take(Token t, Token next, int at, List<Taken> got) {
            int w = command.get(at);
            if (t.kind == 0) {
                if (!t.words.contains(w)) throw new Fail(5, at);
                return at + 1;
            }
            Taken s = new Taken(t.kind, at);
            got.add(s);
            if (t.one()) {
                Phrase p = one(t.kind, at);
                s.things = p.things;
                if (join(at(command, p.end))) throw new Fail(13, p.end);
                return p.end;
            }
            if (t.kind <= 8) return several(s, at);
            if (t.kind == 9) {
                int end = at + 1;
                while (end < command.size() && (next == null || !next.words.contains(command.get(end)))) end++;
                s.others = command.subList(at, end);
                return end;
            }
            if (t.kind == 10 && w < 10000) throw new Fail(8, at);
            if (t.kind == 11 && !customs.containsKey(List.of(t.of, w))) throw new Fail(9, at);
            s.others.add(t.kind == 10 ? w - 10000 : customs.get(List.of(t.of, w)));
            return at + 1;
        }

        Phrase one(int kind, int at) {
            if (at(command, at) == 4) throw new Fail(13, at);
            Phrase p = phrase(command, at);
            if (p == null) throw new Fail(7, at);
            TreeSet<Integer> left = new TreeSet<>(p.things);
            if (kind == 3) left.removeIf(t -> !things.get(t).held());
            if (kind == 4) left.removeIf(t -> !things.get(t).worn());
            if (kind == 5) left.removeIf(t -> !things.get(t).creature());
            if (left.isEmpty()) throw new Fail(new int[] {0, 0, 0, 11, 12, 10}[kind], at);
            if (left.size() > 1) throw new Fail(15, at, new ArrayList<>(left), p.end);
            return new Phrase(p.end, left);
        }

        int several(Taken s, int began) {
            int at = began;
            if (command.get(at) == 4) {
                for (int i = 0; i < things.size(); i++) {
                    Thing t = things.get(i);
                    boolean in = s.kind == 6 ? !t.held() : t.held() && !t.worn();
                    if (t.inScope() && !t.creature() && in) s.things.add(i);
                }
                at++;
                boolean but = at(command, at) == 3;
                while (but) {
                    Phrase p = phrase(command, at + 1);
                    if (p == null) throw new Fail(7, at + 1);
                    s.things.removeAll(p.things);
                    at = p.end;
                    but = join(at(command, at));
                }
            } else {
                at--;
                do {
                    Phrase p = one(s.kind == 6 ? 2 : 3, at + 1);
                    s.things.addAll(p.things);
                    at = p.end;
                } while (join(at(command, at)));
            }
            if (s.things.isEmpty()) throw new Fail(14, began);
            return at;
        }

        int object(int slot, int k) {
            if (!acted || slot < 0 || slot >= slots.size()) return -1;
            Taken s = slots.get(slot);
            return k == -2 ? s.kind : k == -1 ? s.items().size() : at(s.items(), k);
        }

        int asked(int k) {
            boolean open = error >= 15;
            return k == -1 ? (open ? error : 0) : open ? at(question, k) : -1;
        }

        int filled(int k) { return acted ? at(filled, k) : -1; }

        int told(int what) {
            int[] all = {error, place, line, to, traced.size(), input.size(), command.size(), verbs, lines.size(),
                things.size(), customs.size()};
            return what < 0 || what >= all.length ? -1 : all[what];
        }

        int trace(int i, int what) {
            return i < 0 || i >= traced.size() || what < 0 || what > 2 ? -1 : traced.get(i)[what];
        }

        int said(int which, int i) { return which == 0 ? at(command, i) : which == 1 ? at(input, i) : -1; }
    }

    // ---- the runs ----

    private final Random random;
    private final int run;
    private final GrammarLines real = new GrammarLines();
    private final Model model = new Model();
    private final List<String> calls = new ArrayList<>();
    private static final int[] errorsSeen = new int[17];
    private static final int[] seen = new int[9];
    private static int wrong = 0;
    private static final int ACTIONS = 0, FILLS = 1, ORDERS = 2, ANSWERED = 3, AGAINS = 4, MENDED = 5, REVERSED = 6, LEFT = 7,
        FULL = 8;

    private ModelTest(int run) {
        this.run = run;
        random = new Random(run);
    }

    public static void main(String[] args) {
        for (int run = 0; run < RUNS && wrong < 20; run++) {
            new ModelTest(run).go();
        }
        for (int e = 1; e <= 16; e++) {
            if (errorsSeen[e] < 100) {
                wrong++;
                System.out.println("error " + e + " came only " + errorsSeen[e] + " times: the runs show too little");
            }
        }
        for (int i = 0; i < seen.length; i++) {
            if (seen[i] < 100) {
                wrong++;
                System.out.println("case " + i + " came only " + seen[i] + " times: the runs show too little");
            }
        }
        System.out.println(RUNS + " runs, " + seen[ACTIONS] + " actions; " + wrong + " answers are not as due");
        if (wrong != 0) System.exit(1);
    }

    private void same(String call, int got, int want) {
        calls.add(call + " " + got);
        if (got != want) {
            wrong++;
            System.out.println("run " + run + ": " + call + " answered " + got + ", due is " + want + " behind " + calls);
        }
    }

    private int pick(int... of) { return of[random.nextInt(of.length)]; }
    private boolean once(int in) { return random.nextInt(in) == 0; }
    private int nameWord() { return 20 + random.nextInt(7); }
    private int linkWord() { return 70 + random.nextInt(4); }
    private int verbWord() { return 50 + random.nextInt(5); }
    private int junk() {
        return once(4) ? random.nextInt() : pick(-104, -2, -1, 0, 1, 2, 7, 8, 9, 10, 11, 12, 15, 16, 40, 60, 9999, 10000, 19999, 20000);
    }

    private void go() {
        world();
        for (int i = 0; i < SENTENCES && wrong < 20; i++) {
            if (once(6)) junkCall();
            if (once(4)) changeFlags();
            if (once(12)) grammar(1);
            sentence();
            parse();
            for (int k = 0; k < 3 && model.error >= 15 && !once(3); k++) {
                answer();
            }
            if (once(10)) same("clear()", real.clear(), model.clear());
        }
    }

    private void world() {
        if (run % 10 == 0) {
            fullWorld();
            return;
        }
        int verbs = 1 + random.nextInt(3);
        for (int i = 0; i < verbs; i++) verb(50 + i);
        if (once(2)) like(random.nextInt(verbs), 53);
        if (once(5)) verb(nameWord());
        int things = 1 + random.nextInt(8);
        for (int i = 0; i < things; i++) {
            thing(pick(0, 1, 1, 1, 2, 2, 3, 4, 6, 8, 9, 9, 10, random.nextInt(16)));
            int names = random.nextInt(5);
            for (int k = 0; k < names; k++) name(i, nameWord());
        }
        for (int i = random.nextInt(6); i > 0; i--) custom(random.nextInt(3), pick(nameWord(), linkWord(), 10003), random.nextInt(10000));
        grammar(1 + random.nextInt(8));
    }

    /** All room taken, and calls beyond it. */
    private void fullWorld() {
        for (int i = 0; i < 22; i++) verb(i < 3 ? 50 + i : 150 + i);
        for (int i = 0; i < 45; i++) like(random.nextInt(20), i == 0 ? 53 : 200 + i);
        for (int i = 0; i < 42; i++) {
            thing(pick(0, 0, 1, 1, 2, 4, 9, random.nextInt(16)));
            for (int k = random.nextInt(7); k > 0; k--) name(i, once(3) ? 300 + i : nameWord());
        }
        for (int i = 0; i < 45; i++) custom(random.nextInt(3), once(2) ? nameWord() : 400 + i, random.nextInt(10000));
        grammar(62);
        seen[FULL]++;
    }

    private void grammar(int lines) {
        for (int i = 0; i < lines; i++) {
            int verb = random.nextInt(Math.max(1, once(3) ? model.verbs : Math.min(3, model.verbs)));
            int action = 1 + random.nextInt(9999);
            boolean reversed = once(2);
            same("line(" + verb + ", " + action + ", " + reversed + ")", real.line(verb, action, reversed), model.line(verb, action, reversed));
            int line = model.lines.size() - 1;
            int kinds = random.nextInt(once(6) ? 10 : 5);
            for (int k = 0; k < kinds; k++) {
                int kind = once(3) ? 0 : once(8) ? 1 : 2 + random.nextInt(once(2) ? 7 : 10);
                token(line, kind, kind < 2 ? linkWord() : random.nextInt(3));
            }
        }
    }

    private void verb(int w) { same("verb(" + w + ")", real.verb(w), model.verb(w)); }
    private void like(int v, int w) { same("like(" + v + ", " + w + ")", real.like(v, w), model.like(v, w)); }
    private void token(int l, int k, int o) { same("token(" + l + ", " + k + ", " + o + ")", real.token(l, k, o), model.token(l, k, o)); }
    private void thing(int f) { same("thing(" + f + ")", real.thing(f), model.thing(f)); }
    private void name(int t, int w) { same("name(" + t + ", " + w + ")", real.name(t, w), model.name(t, w)); }
    private void custom(int c, int w, int v) { same("custom(" + c + ", " + w + ", " + v + ")", real.custom(c, w, v), model.custom(c, w, v)); }
    private void word(int w) { same("word(" + w + ")", real.word(w), model.word(w)); }

    private void changeFlags() {
        int t = random.nextInt(model.things.size() + 1), f = random.nextInt(16);
        same("flags(" + t + ", " + f + ")", real.flags(t, f), model.flags(t, f));
    }

    private void junkCall() {
        int a = junk(), b = junk(), c = junk();
        switch (random.nextInt(14)) {
            case 0 -> verb(a);
            case 1 -> like(a, b);
            case 2 -> token(a, b, c);
            case 3 -> thing(a);
            case 4 -> name(a, b);
            case 5 -> custom(a, b, c);
            case 6 -> word(a);
            case 7 -> same("answer(" + a + ")", real.answer(a), model.answer(a));
            case 8 -> same("flags(" + a + ", " + b + ")", real.flags(a, b), model.flags(a, b));
            case 9 -> same("line(" + a + ", " + b + ", true)", real.line(a, b, true), model.line(a, b, true));
            case 10 -> same("object(" + a + ", " + b + ")", real.object(a, b), model.object(a, b));
            case 11 -> same("trace(" + a + ", " + b + ")", real.trace(a, b), model.trace(a, b));
            case 12 -> same("said(" + a + ", " + b + ")", real.said(a, b), model.said(a, b));
            default -> same("asked(" + a + ")", real.asked(a), model.asked(a));
        }
    }

    private void sentence() {
        int parts = once(4) ? 2 + random.nextInt(2) : 1;
        for (int i = 0; i < parts; i++) {
            if (i > 0) word(pick(2, 2, 1, 7));
            if (once(6)) order();
            if (once(9)) word(5);
            else if (once(model.error > 1 ? 3 : 9)) {
                word(6);
                word(pick(nameWord(), verbWord(), linkWord(), 10001));
            } else command();
            if (once(10)) anyWord();
        }
        if (once(40)) for (int i = 0; i < 60; i++) word(nameWord());
    }

    private void order() {
        int t = random.nextInt(model.things.size());
        for (int n : model.things.get(t).names) if (!once(3)) word(n);
        word(once(8) ? 1 : 7);
    }

    private void command() {
        if (once(12) || model.lines.isEmpty()) {
            word(verbWord());
            return;
        }
        Line l = model.lines.get(random.nextInt(model.lines.size()));
        List<Integer> words = new ArrayList<>();
        model.verbWords.forEach((w, v) -> { if (v == l.verb) words.add(w); });
        words.sort(null);
        word(once(20) ? 99 : words.get(random.nextInt(words.size())));
        for (Token t : l.tokens) {
            if (once(8)) break;
            if (once(14)) anyWord();
            else speak(t);
        }
    }

    private void speak(Token t) {
        if (t.kind == 0) word(t.words.get(random.nextInt(t.words.size())));
        else if (t.kind <= 5) names();
        else if (t.kind <= 8) {
            boolean all = once(2);
            if (all) word(4);
            if (all && !once(2)) return;
            if (all) word(3);
            names();
            while (once(3)) {
                word(pick(1, 7));
                names();
            }
        } else if (t.kind == 9) for (int i = random.nextInt(4); i >= 0; i--) anyWord();
        else if (t.kind == 10) word(10000 + random.nextInt(10000));
        else word(pick(nameWord(), linkWord(), 10003));
    }

    private void names() {
        int t = random.nextInt(model.things.size());
        for (int n : model.things.get(t).names) if (!once(3)) word(n);
    }

    private void anyWord() {
        word(pick(nameWord(), nameWord(), linkWord(), linkWord(), verbWord(), 99, 10005, 1, 2, 3, 4, 5, 6, 7));
    }

    private void parse() {
        same("parse()", real.parse(), model.parse());
        compare();
    }

    private void answer() {
        int w = once(3) ? pick(nameWord(), linkWord(), verbWord(), 4, 7, 5, 10001) : nameWord();
        same("answer(" + w + ")", real.answer(w), model.answer(w));
        if (model.acted) seen[ANSWERED]++;
        compare();
    }

    private void compare() {
        errorsSeen[model.error]++;
        if (model.acted) seen[ACTIONS]++;
        if (!model.filled.isEmpty()) seen[FILLS]++;
        if (model.to != -1) seen[ORDERS]++;
        if (model.acted && model.input.size() > 0) seen[LEFT]++;
        if (model.acted && model.lines.get(model.line).reversed && model.slots.size() == 2) seen[REVERSED]++;
        if (calls.get(Math.max(0, calls.size() - 2)).startsWith("word(5)") && model.acted) seen[AGAINS]++;
        if (calls.get(Math.max(0, calls.size() - 3)).startsWith("word(6)") && model.acted) seen[MENDED]++;
        for (int i = -1; i <= 11; i++) check("told", i, real.told(i), model.told(i));
        for (int i = -3; i <= 61; i++) {
            check("object 0", i, real.object(0, i), model.object(0, i));
            check("object 1", i, real.object(1, i), model.object(1, i));
            check("asked", i, real.asked(i), model.asked(i));
            check("filled", i, real.filled(i), model.filled(i));
            check("said 0", i, real.said(0, i), model.said(0, i));
            check("said 1", i, real.said(1, i), model.said(1, i));
            for (int what = -1; what <= 3; what++) check("trace " + what, i, real.trace(i, what), model.trace(i, what));
        }
    }

    private void check(String call, int i, int got, int want) {
        if (got != want) {
            same(call + "(" + i + ")", got, want);
        }
    }
}
