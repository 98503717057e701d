import java.util.ArrayList;
import java.util.Arrays;
import java.util.HashMap;
import java.util.List;
import java.util.Map;
import java.util.TreeSet;
import java.util.regex.Matcher;
import java.util.regex.Pattern;

/** The document once more, written in another way (with patterns, trees and lists), to be held against the program. */
final class Model {
    static final int RIGHT = 0, TOKEN = 1, HEADER = 2, UNEXPECTED = 3, DEEP = 4, ENDINGS = 5, UNCLOSED = 6, LONG = 7, SHORT = 8, TIE = 9, MANY = 10;
    static final int CLEF = 0, KEY = 1, METER = 2, NOTE = 3, REST = 4, BAR = 5, OPEN = 6, CLOSE = 7, FIRST_OF = 8, LAST_OF = 9;

    /** A fault, thrown from wherever in the recursion it is found. */
    private static final class Fault extends RuntimeException {
        private static final long serialVersionUID = 1L;
        final int kind;
        final int at;

        Fault(int kind, int at) {
            super("fault", null, false, false);
            this.kind = kind;
            this.at = at;
        }
    }

    static final class Tok {
        int kind;
        int start;
        int number;
        int clef;
        int place;
        int sign;
        int ticks;
        boolean tied;

        Tok same() {
            Tok t = new Tok();
            t.kind = kind;
            t.start = start;
            t.number = number;
            t.place = place;
            t.sign = sign;
            t.ticks = ticks;
            t.tied = tied;
            return t;
        }
    }

    static final class Bar {
        final int[] pitch;
        final boolean[] begins;

        Bar(int ticks) {
            pitch = new int[ticks];
            Arrays.fill(pitch, -2);
            begins = new boolean[ticks];
        }

        boolean alike(Bar other) {
            return Arrays.equals(pitch, other.pitch) && Arrays.equals(begins, other.begins);
        }
    }

    static final class Music {
        int error = RIGHT;
        int at = -1;
        List<Bar> bars = new ArrayList<>();
    }

    /** A repeat, an ending, or one token. */
    private static final class Node {
        int token = -1;
        int times = 1;
        List<Node> body = new ArrayList<>();
        List<List<Node>> endings = new ArrayList<>();
    }

    private static final class Copy {
        int part;
        int holder = -1;
        TreeSet<Integer> marks = new TreeSet<>();
    }

    private static final class Request {
        int piece;
        int voices;
        int from;
        int to;
        int given = -1;
    }

    private final StringBuilder[] text = new StringBuilder[12];
    private final List<TreeSet<Integer>> library = new ArrayList<>();
    private final List<Copy> copies = new ArrayList<>();
    private final List<int[]> corrections = new ArrayList<>();
    private final List<Request> requests = new ArrayList<>();
    private final int[] places = {4, 4, 4, 4};
    private final Map<Integer, TreeSet<Integer>> taken = new HashMap<>();
    private final Map<String, Bar> lastLearned = new HashMap<>();
    private final Map<String, Integer> timesLearned = new HashMap<>();
    private int today = 0;
    private int concerts = 0;

    Model() {
        for (int i = 0; i < 12; i++) {
            text[i] = new StringBuilder();
            library.add(new TreeSet<>());
        }
    }

    // ---- reading

    private static final Pattern[] FORMS = {
        Pattern.compile("@([GFC])"), Pattern.compile("([#b])([0-7])"), Pattern.compile("M([1-9])/([48])"),
        Pattern.compile("([\\^_=]?)(-?\\d\\d?)(s|[whqe]\\.?)(~?)"), Pattern.compile("r(s|[whqe]\\.?)"), Pattern.compile("\\|"),
        Pattern.compile("\\["), Pattern.compile("\\]([2-4])"), Pattern.compile("\\(([1-4]):"), Pattern.compile("\\)")};

    private static int ticks(String length) {
        int plain = 16 >> "whqes".indexOf(length.charAt(0));
        return length.length() == 2 ? plain * 3 / 2 : plain;
    }

    private static Tok form(int kind, Matcher m) {
        Tok t = new Tok();
        t.kind = kind;
        t.start = m.start();
        switch (kind) {
            case CLEF:
                t.number = "GFC".indexOf(m.group(1));
                return t;
            case KEY:
                t.number = Integer.parseInt(m.group(2)) * (m.group(1).equals("#") ? 1 : -1);
                return t;
            case METER:
                t.number = Integer.parseInt(m.group(1)) * 16 / Integer.parseInt(m.group(2));
                return t.number <= 16 ? t : null;
            case NOTE:
                t.sign = m.group(1).isEmpty() ? 0 : 1 + "^_=".indexOf(m.group(1));
                t.place = Integer.parseInt(m.group(2));
                t.ticks = ticks(m.group(3));
                t.tied = !m.group(4).isEmpty();
                return t.place >= -9 && t.place <= 19 ? t : null;
            case REST:
                t.ticks = ticks(m.group(1));
                return t;
            case CLOSE:
            case FIRST_OF:
                t.number = Integer.parseInt(m.group(1));
                return t;
            default:
                return t;
        }
    }

    /** Fills the list, and answers where an error TOKEN is, or -1. */
    private static int read(String s, List<Tok> into) {
        int at = 0;
        while (true) {
            while (at < s.length() && s.charAt(at) == ' ') {
                at++;
            }
            if (at == s.length()) {
                return -1;
            }
            Tok found = null;
            for (int kind = 0; kind < FORMS.length && found == null; kind++) {
                Matcher m = FORMS[kind].matcher(s);
                m.region(at, s.length());
                if (m.lookingAt()) {
                    found = form(kind, m);
                    if (found != null && into.size() < 60) {
                        into.add(found);
                        at = m.end();
                    } else {
                        return at;
                    }
                }
            }
            if (found == null) {
                return at;
            }
        }
    }

    // ---- parsing, by recursion

    private static final class Parser {
        final List<Tok> toks;
        final int end;
        int next = 0;

        Parser(List<Tok> toks, int end) {
            this.toks = toks;
            this.end = end;
        }

        int kind() {
            return next < toks.size() ? toks.get(next).kind : -1;
        }

        int place() {
            return next < toks.size() ? toks.get(next).start : end;
        }

        List<Node> part() {
            for (int due = CLEF; due <= METER; due++) {
                if (kind() != due) {
                    throw new Fault(HEADER, place());
                }
                next++;
            }
            List<Node> body = body(0, false);
            if (kind() != -1) {
                throw new Fault(UNEXPECTED, place());
            }
            return body;
        }

        /** Reads on to the first token that does not belong to a body. */
        List<Node> body(int depth, boolean inEnding) {
            List<Node> nodes = new ArrayList<>();
            while (true) {
                int kind = kind();
                if (kind == NOTE || kind == REST || kind == CLEF || kind == BAR) {
                    Node node = new Node();
                    node.token = next++;
                    nodes.add(node);
                } else if (kind == OPEN && !inEnding) {
                    if (depth == 3) {
                        throw new Fault(DEEP, place());
                    }
                    next++;
                    nodes.add(repeat(depth + 1));
                } else {
                    return nodes;
                }
            }
        }

        Node repeat(int depth) {
            Node node = new Node();
            node.body = body(depth, false);
            while (kind() == FIRST_OF) {
                if (toks.get(next).number != node.endings.size() + 1) {
                    throw new Fault(ENDINGS, place());
                }
                next++;
                node.endings.add(body(depth, true));
                if (kind() != LAST_OF) {
                    throw new Fault(kind() == -1 ? UNCLOSED : UNEXPECTED, place());
                }
                next++;
            }
            if (kind() != CLOSE) {
                throw new Fault(kind() == -1 ? UNCLOSED : UNEXPECTED, place());
            }
            node.times = toks.get(next).number;
            if (!node.endings.isEmpty() && node.endings.size() != node.times) {
                throw new Fault(ENDINGS, place());
            }
            next++;
            return node;
        }
    }

    private static void unfold(List<Node> nodes, List<Integer> into) {
        for (Node node : nodes) {
            if (node.token >= 0) {
                into.add(node.token);
            }
            for (int time = 0; node.token < 0 && time < node.times; time++) {
                unfold(node.body, into);
                if (!node.endings.isEmpty()) {
                    unfold(node.endings.get(time), into);
                }
            }
        }
    }

    // ---- singing

    private static int natural(int step) {
        return 12 * (step / 7) + new int[] {0, 2, 4, 5, 7, 9, 11}[step % 7];
    }

    private static int byKey(int key, int step) {
        int letter = step % 7;
        String order = key > 0 ? "FCGDAEB" : "BEADGCF";
        int index = order.indexOf("CDEFGAB".charAt(letter));
        return index < Math.abs(key) ? Integer.signum(key) : 0;
    }

    private Music sing(int part, TreeSet<Integer> marks) {
        Music music = new Music();
        String s = text[part].toString();
        List<Tok> toks = new ArrayList<>();
        try {
            int bad = read(s, toks);
            if (bad >= 0) {
                throw new Fault(TOKEN, bad);
            }
            List<Node> tree = new Parser(toks, s.length()).part();
            List<Tok> changed = correct(toks, marks);
            List<Integer> order = new ArrayList<>();
            unfold(tree, order);
            singOut(changed, order, s.length(), music);
        } catch (Fault f) {
            music.error = f.kind;
            music.at = f.at;
            music.bars.clear();
        }
        return music;
    }

    private List<Tok> correct(List<Tok> toks, TreeSet<Integer> marks) {
        List<Tok> out = new ArrayList<>();
        for (Tok t : toks) {
            out.add(t.same());
        }
        Map<Integer, Integer> greatest = new HashMap<>();
        for (int number : marks) {
            int[] c = corrections.get(number);
            greatest.merge(c[0] * 10 + c[1], number, Math::max);
        }
        for (int number : greatest.values()) {
            int[] c = corrections.get(number);
            Tok t = out.get(c[0]);
            if (c[2] != 100) {
                if (c[1] == 0) {
                    t.number = c[2];
                } else if (c[1] == 1) {
                    t.place = c[2];
                } else if (c[1] == 2) {
                    t.sign = c[2];
                } else if (c[1] == 3) {
                    t.ticks = c[2];
                } else if (c[2] == 1) {
                    t.kind = REST;
                    t.tied = false;
                }
            }
        }
        int clef = 0;
        for (Tok t : out) {
            clef = t.kind == CLEF ? t.number : clef;
            t.clef = clef;
        }
        return out;
    }

    private static void singOut(List<Tok> toks, List<Integer> order, int end, Music music) {
        int key = toks.get(1).number;
        int whole = toks.get(2).number;
        List<int[]> bar = new ArrayList<>();
        Map<Integer, Integer> signs = new HashMap<>();
        Tok tying = null;
        int tyingPitch = 0;
        int tyingChange = 0;
        int[] changes = {0, 1, -1, 0};
        for (int index : order) {
            Tok t = toks.get(index);
            if (t.kind == BAR) {
                boolean partial = bar.size() < whole;
                if (bar.isEmpty() || partial && !music.bars.isEmpty()) {
                    throw new Fault(SHORT, t.start);
                }
                keep(music, bar, whole, t.start);
                signs.clear();
            } else if (t.kind == NOTE || t.kind == REST) {
                int step = new int[] {30, 18, 24}[t.clef] + t.place;
                int change = tying != null ? tyingChange
                    : t.sign != 0 ? changes[t.sign]
                    : signs.containsKey(step) ? signs.get(step) : byKey(key, step);
                int pitch = natural(step) + change;
                if (tying != null && (t.kind == REST || pitch != tyingPitch || t.sign != 0 && changes[t.sign] != change)) {
                    throw new Fault(TIE, tying.start);
                }
                if (bar.size() + t.ticks > whole) {
                    throw new Fault(LONG, t.start);
                }
                for (int i = 0; i < t.ticks; i++) {
                    bar.add(new int[] {t.kind == REST ? -2 : pitch, t.kind == NOTE && i == 0 && tying == null ? 1 : 0});
                }
                if (t.kind == NOTE && t.sign != 0) {
                    signs.put(step, changes[t.sign]);
                }
                tying = t.kind == NOTE && t.tied ? t : null;
                tyingPitch = pitch;
                tyingChange = change;
            }
        }
        if (tying != null) {
            throw new Fault(TIE, tying.start);
        }
        if (!bar.isEmpty()) {
            if (bar.size() < whole && !music.bars.isEmpty()) {
                throw new Fault(SHORT, end);
            }
            keep(music, bar, whole, end);
        }
    }

    private static void keep(Music music, List<int[]> bar, int whole, int at) {
        if (music.bars.size() == 40) {
            throw new Fault(MANY, at);
        }
        Bar kept = new Bar(whole);
        int ahead = whole - bar.size();
        for (int i = 0; i < bar.size(); i++) {
            kept.pitch[ahead + i] = bar.get(i)[0];
            kept.begins[ahead + i] = bar.get(i)[1] == 1;
        }
        music.bars.add(kept);
        bar.clear();
    }

    // ---- what is asked

    private static void index(boolean is) {
        if (!is) {
            throw new IndexOutOfBoundsException();
        }
    }

    private static void argument(boolean is) {
        if (!is) {
            throw new IllegalArgumentException();
        }
    }

    private static void state(boolean is) {
        if (!is) {
            throw new IllegalStateException();
        }
    }

    private static int part(int piece, int voice) {
        index(piece >= 0 && piece < 3 && voice >= 0 && voice < 4);
        return piece * 4 + voice;
    }

    private Copy copyOf(int copy) {
        index(copy >= 0 && copy < copies.size());
        return copies.get(copy);
    }

    private boolean printed(int part) {
        return copies.stream().anyMatch(c -> c.part == part);
    }

    private Music asLibraryHas(int part) {
        return sing(part, library.get(part));
    }

    private Music of(Copy c) {
        return sing(c.part, c.marks);
    }

    private static Bar bar(Music music, int bar, int tick) {
        index(bar >= 0 && bar < music.bars.size());
        index(tick >= 0 && tick < music.bars.get(bar).pitch.length);
        return music.bars.get(bar);
    }

    int write(int piece, int voice, char letter) {
        int p = part(piece, voice);
        argument(letter >= 32 && letter <= 126);
        state(!printed(p) && text[p].length() < 160);
        return text[p].append(letter).length();
    }

    int strike(int piece, int voice, int many) {
        int p = part(piece, voice);
        argument(many >= 1 && many <= 160);
        state(!printed(p));
        text[p].setLength(Math.max(0, text[p].length() - many));
        return text[p].length();
    }

    int error(int piece, int voice) {
        return sing(part(piece, voice), new TreeSet<>()).error;
    }

    int errorAt(int piece, int voice) {
        return sing(part(piece, voice), new TreeSet<>()).at;
    }

    private List<Tok> toks(int part) {
        List<Tok> toks = new ArrayList<>();
        read(text[part].toString(), toks);
        return toks;
    }

    int tokens(int piece, int voice) {
        return toks(part(piece, voice)).size();
    }

    int token(int piece, int voice, int token) {
        List<Tok> toks = toks(part(piece, voice));
        index(token >= 0 && token < toks.size());
        return toks.get(token).kind;
    }

    int bars(int piece, int voice) {
        Music music = asLibraryHas(part(piece, voice));
        return music.error == RIGHT ? music.bars.size() : -1;
    }

    int pitch(int piece, int voice, int bar, int tick) {
        return bar(asLibraryHas(part(piece, voice)), bar, tick).pitch[tick];
    }

    float seconds(int piece, int voice, int tempo) {
        Music music = asLibraryHas(part(piece, voice));
        argument(tempo >= 20 && tempo <= 300);
        if (music.error != RIGHT) {
            return -1f;
        }
        int ticks = 0;
        for (Bar b : music.bars) {
            ticks += b.pitch.length;
        }
        float all = ticks;
        return all * 15f / tempo;
    }

    int print(int piece, int voice) {
        int p = part(piece, voice);
        state(error(piece, voice) == RIGHT && copies.size() < 40);
        Copy c = new Copy();
        c.part = p;
        copies.add(c);
        return copies.size() - 1;
    }

    int lend(int copy, int singer) {
        Copy c = copyOf(copy);
        index(singer >= 0 && singer < 12);
        state(c.holder == -1 && copies.stream().noneMatch(o -> o.holder == singer && o.part / 4 == c.part / 4));
        c.holder = singer;
        c.marks = new TreeSet<>(library.get(c.part));
        return c.marks.size();
    }

    int back(int copy) {
        Copy c = copyOf(copy);
        state(c.holder != -1);
        c.holder = -1;
        int before = library.get(c.part).size();
        library.get(c.part).addAll(c.marks);
        return library.get(c.part).size() - before;
    }

    int pencil(int copy, int token, int kind, int value) {
        Copy c = copyOf(copy);
        List<Tok> toks = toks(c.part);
        index(token >= 0 && token < toks.size());
        argument(kind >= 0 && kind <= 4);
        List<List<Integer>> values = List.of(List.of(0, 1, 2), List.of(), List.of(0, 1, 2, 3), List.of(1, 2, 3, 4, 6, 8, 12, 16, 24), List.of(0, 1));
        argument(value == 100 || kind == 1 && value >= -9 && value <= 19 || values.get(kind).contains(value));
        int printed = toks.get(token).kind;
        state(c.holder != -1 && corrections.size() < 200);
        state(printed == CLEF && kind == 0 || printed == NOTE && kind > 0 || printed == REST && kind == 3);
        corrections.add(new int[] {token, kind, value});
        c.marks.add(corrections.size() - 1);
        return corrections.size() - 1;
    }

    int holder(int copy) {
        return copyOf(copy).holder;
    }

    int copyError(int copy) {
        return of(copyOf(copy)).error;
    }

    int copyPitch(int copy, int bar, int tick) {
        return bar(of(copyOf(copy)), bar, tick).pitch[tick];
    }

    boolean begins(int copy, int bar, int tick) {
        return bar(of(copyOf(copy)), bar, tick).begins[tick];
    }

    private static int unlike(Music a, Music b) {
        int count = Math.abs(a.bars.size() - b.bars.size());
        for (int i = 0; i < Math.min(a.bars.size(), b.bars.size()); i++) {
            count += a.bars.get(i).alike(b.bars.get(i)) ? 0 : 1;
        }
        return count;
    }

    int differ(int copy, int other) {
        Copy a = copyOf(copy);
        Copy b = copyOf(other);
        argument(a.part == b.part);
        state(of(a).error == RIGHT && of(b).error == RIGHT);
        return unlike(of(a), of(b));
    }

    private int[] clashKinds(int piece, int bar) {
        int[] found = new int[4];
        List<Music> all = new ArrayList<>();
        for (int voice = 0; voice < 4; voice++) {
            Music music = asLibraryHas(piece * 4 + voice);
            if (printed(piece * 4 + voice) && music.error == RIGHT) {
                all.add(music);
            }
        }
        List<Bar> having = new ArrayList<>();
        for (Music music : all) {
            if (bar < music.bars.size()) {
                having.add(music.bars.get(bar));
            }
        }
        found[0] = !having.isEmpty() && having.size() < all.size() ? 1 : 0;
        found[1] = having.stream().mapToInt(b -> b.pitch.length).distinct().count() > 1 ? 1 : 0;
        for (int i = 0; i < having.size() && found[1] == 0; i++) {
            for (int j = i + 1; j < having.size(); j++) {
                Bar a = having.get(i);
                Bar b = having.get(j);
                for (int t = 0; t < a.pitch.length; t++) {
                    if (a.pitch[t] >= 0 && b.pitch[t] >= 0 && (a.begins[t] || b.begins[t])) {
                        int left = Math.abs(a.pitch[t] - b.pitch[t]) % 12;
                        found[2] += left == 1 || left == 11 ? 1 : 0;
                        found[3] += b.pitch[t] > a.pitch[t] ? 1 : 0;
                    }
                }
            }
        }
        return found;
    }

    int clashes(int piece, int bar) {
        index(piece >= 0 && piece < 3);
        index(bar >= 0 && bar < 40);
        return Arrays.stream(clashKinds(piece, bar)).sum();
    }

    int clashesOf(int piece, int kind) {
        index(piece >= 0 && piece < 3);
        argument(kind >= 0 && kind < 4);
        int sum = 0;
        for (int bar = 0; bar < 40; bar++) {
            sum += clashKinds(piece, bar)[kind];
        }
        return sum;
    }

    int day() {
        taken.clear();
        return ++today;
    }

    int room(int room, int many) {
        index(room >= 0 && room < 4);
        argument(many >= 0 && many <= 12);
        int before = places[room];
        places[room] = many;
        return before;
    }

    int ask(int piece, int voices, int from, int to) {
        index(piece >= 0 && piece < 3);
        argument(voices >= 1 && voices <= 15 && from >= 0 && from < 40 && to >= from && to < 40);
        state(requests.size() < 40);
        Request r = new Request();
        r.piece = piece;
        r.voices = voices;
        r.from = from;
        r.to = to;
        requests.add(r);
        return requests.size() - 1;
    }

    int plan() {
        int count = 0;
        for (Request r : requests) {
            if (r.given == -1) {
                count += rehearse(r) ? 1 : 0;
            }
        }
        return count;
    }

    private boolean rehearse(Request r) {
        List<Copy> sung = new ArrayList<>();
        TreeSet<Integer> singers = new TreeSet<>();
        for (Copy c : copies) {
            if (c.holder != -1 && c.part / 4 == r.piece && (r.voices >> c.part % 4) % 2 == 1 && of(c).bars.size() > r.to) {
                sung.add(c);
                singers.add(c.holder);
            }
        }
        for (int place = 0; place < 16 && !singers.isEmpty(); place++) {
            int slot = place / 4;
            boolean free = !taken.containsKey(place) && places[place % 4] >= singers.size();
            for (int room = 0; room < 4; room++) {
                for (int singer : taken.getOrDefault(slot * 4 + room, new TreeSet<>())) {
                    free &= !singers.contains(singer);
                }
            }
            if (free) {
                taken.put(place, singers);
                r.given = 100 * today + 10 * slot + place % 4;
                for (Copy c : sung) {
                    learn(c, r.from, r.to);
                }
                return true;
            }
        }
        return false;
    }

    private static String key(int singer, int part, int bar) {
        return singer + "/" + part + "/" + bar;
    }

    private void learn(Copy c, int from, int to) {
        Music music = of(c);
        for (int bar = from; bar <= to; bar++) {
            String key = key(c.holder, c.part, bar);
            Bar now = music.bars.get(bar);
            boolean again = lastLearned.containsKey(key) && lastLearned.get(key).alike(now);
            timesLearned.put(key, again ? timesLearned.get(key) + 1 : 1);
            lastLearned.put(key, now);
        }
    }

    int done(int request) {
        index(request >= 0 && request < requests.size());
        return requests.get(request).given;
    }

    int learned(int singer, int piece, int voice, int bar) {
        index(singer >= 0 && singer < 12);
        int p = part(piece, voice);
        index(bar >= 0 && bar < 40);
        return timesLearned.getOrDefault(key(singer, p, bar), 0);
    }

    int misled(int singer, int piece, int voice) {
        index(singer >= 0 && singer < 12);
        int p = part(piece, voice);
        Music music = asLibraryHas(p);
        int count = 0;
        for (int bar = 0; bar < 40; bar++) {
            Bar last = lastLearned.get(key(singer, p, bar));
            if (last != null && (bar >= music.bars.size() || !last.alike(music.bars.get(bar)))) {
                count++;
            }
        }
        return count;
    }

    int judge(int piece) {
        index(piece >= 0 && piece < 3);
        List<Copy> lent = new ArrayList<>();
        TreeSet<Integer> voices = new TreeSet<>();
        for (Copy c : copies) {
            if (c.holder != -1 && c.part / 4 == piece) {
                lent.add(c);
                voices.add(c.part);
            }
        }
        if (voices.size() < 4) {
            return 1;
        }
        List<Music> musics = new ArrayList<>();
        for (Copy c : lent) {
            musics.add(of(c));
        }
        if (musics.stream().anyMatch(m -> m.error != RIGHT)) {
            return 2;
        }
        int worst = 6;
        for (int i = 0; i < lent.size(); i++) {
            Music a = musics.get(i);
            for (int j = 0; j < i; j++) {
                Music b = musics.get(j);
                boolean oneVoice = lent.get(i).part == lent.get(j).part;
                if (oneVoice && unlike(a, b) > 0) {
                    worst = Math.min(worst, 3);
                }
                boolean even = a.bars.size() == b.bars.size() && (a.bars.isEmpty() || a.bars.get(0).pitch.length == b.bars.get(0).pitch.length);
                if (!oneVoice && !even) {
                    worst = Math.min(worst, 4);
                }
            }
            for (int bar = 0; bar < a.bars.size(); bar++) {
                Bar last = lastLearned.get(key(lent.get(i).holder, lent.get(i).part, bar));
                if (last == null || !last.alike(a.bars.get(bar))) {
                    worst = Math.min(worst, 5);
                }
            }
        }
        return worst == 6 ? 0 : worst;
    }

    int concert(int piece) {
        index(piece >= 0 && piece < 3);
        state(judge(piece) == 0);
        int singers = 0;
        for (int i = 0; i < copies.size(); i++) {
            if (copies.get(i).holder != -1 && copies.get(i).part / 4 == piece) {
                back(i);
                singers++;
            }
        }
        concerts++;
        return singers;
    }

    int concerts() {
        return concerts;
    }
}
