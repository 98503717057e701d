import java.util.Arrays;

/** Part songs from their notation to the concert, as ../shared/DOC.md promises. */
public final class PartSongDesk {
    public static final int NONE = -1;
    public static final int SILENCE = -2;
    public static final int RIGHT = 0, TOKEN = 1, HEADER = 2, UNEXPECTED = 3, DEEP = 4, ENDINGS = 5, UNCLOSED = 6, LONG = 7, SHORT = 8, TIE = 9, MANY = 10;
    public static final int CLEF = 0, KEY = 1, METER = 2, NOTE = 3, REST = 4, BAR = 5, OPEN = 6, CLOSE = 7, FIRST_OF = 8, LAST_OF = 9;
    public static final int AS_PRINTED = 100;
    public static final int TO_CLEF = 0, TO_PLACE = 1, TO_SIGN = 2, TO_TICKS = 3, TO_REST = 4;
    public static final int LENGTHS = 0, METERS = 1, HARSH = 2, CROSSED = 3;
    public static final int READY = 0, NO_COPY = 1, WRONG = 2, UNLIKE = 3, UNEVEN = 4, UNLEARNED = 5;

    private static final int PIECES = 3;
    private static final int VOICES = 4;
    private static final int PARTS = 12;
    private static final int SINGERS = 12;
    private static final int ROOMS = 4;
    private static final int SLOTS = 4;
    private static final int ALL_VOICES = 15;
    private static final int MOST_LETTERS = 160;
    private static final int MOST_TOKENS = 60;
    private static final int MOST_BARS = 40;
    private static final int MOST_TICKS = 16;
    private static final int LEAST_METER = 2;
    private static final int LOWEST_PLACE = -9;
    private static final int HIGHEST_PLACE = 19;
    private static final int MOST_COPIES = 40;
    private static final int MOST_CORRECTIONS = 200;
    private static final int MOST_REQUESTS = 40;
    private static final int MOST_PLACES = 12;
    private static final int SLOWEST = 20;
    private static final int FASTEST = 300;

    private final Part[] parts = new Part[PARTS];
    private final Copy[] copies = new Copy[MOST_COPIES];
    private int copyCount;
    private final Corrections corrections = new Corrections();
    private final Reader reader = new Reader();
    private final Grammar grammar = new Grammar();
    private final Singing singing = new Singing();
    private final Tokens anewRow = new Tokens();
    private final Music anewMusic = new Music();
    private final Rehearsals rehearsals = new Rehearsals();
    private final Learning learning = new Learning();
    private int concertCount;

    public PartSongDesk() {
        for (int part = 0; part < PARTS; part++) {
            parts[part] = new Part();
        }
        for (int copy = 0; copy < MOST_COPIES; copy++) {
            copies[copy] = new Copy();
        }
    }

    // ---- texts

    public int write(int piece, int voice, char letter) throws IndexOutOfBoundsException, IllegalArgumentException, IllegalStateException {
        Part part = partOf(piece, voice);
        if (letter < ' ' || letter > '~') {
            throw new IllegalArgumentException("no such letter");
        }
        if (part.isPrinted || part.length >= MOST_LETTERS) {
            throw new IllegalStateException("the part is printed or its text is full");
        }
        part.letters[part.length] = letter;
        part.length++;
        part.isRead = false;
        return part.length;
    }

    public int strike(int piece, int voice, int many) throws IndexOutOfBoundsException, IllegalArgumentException, IllegalStateException {
        Part part = partOf(piece, voice);
        if (many < 1 || many > MOST_LETTERS) {
            throw new IllegalArgumentException("no such number of letters");
        }
        if (part.isPrinted) {
            throw new IllegalStateException("the part is printed");
        }
        part.length = Math.max(0, part.length - many);
        part.isRead = false;
        return part.length;
    }

    public int error(int piece, int voice) throws IndexOutOfBoundsException {
        return readPart(piece, voice).textFault;
    }

    public int errorAt(int piece, int voice) throws IndexOutOfBoundsException {
        return readPart(piece, voice).textFaultAt;
    }

    public int tokens(int piece, int voice) throws IndexOutOfBoundsException {
        return readPart(piece, voice).row.count;
    }

    public int token(int piece, int voice, int token) throws IndexOutOfBoundsException {
        Tokens row = readPart(piece, voice).row;
        if (!row.has(token)) {
            throw new IndexOutOfBoundsException("no such token");
        }
        return row.kind[token];
    }

    // ---- bars of parts, as the library has them

    public int bars(int piece, int voice) throws IndexOutOfBoundsException {
        Music music = readPart(piece, voice).music;
        return music.fault == RIGHT ? music.barCount : NONE;
    }

    public int pitch(int piece, int voice, int bar, int tick) throws IndexOutOfBoundsException {
        Music music = readPart(piece, voice).music;
        mustHave(music, bar, tick);
        return music.pitchAt(bar, tick);
    }

    public float seconds(int piece, int voice, int tempo) throws IndexOutOfBoundsException, IllegalArgumentException {
        Music music = readPart(piece, voice).music;
        if (tempo < SLOWEST || tempo > FASTEST) {
            throw new IllegalArgumentException("no such tempo");
        }
        if (music.fault != RIGHT) {
            return -1f;
        }
        return (float) (music.barCount * music.barTicks) * 15f / (float) tempo;
    }

    // ---- copies and corrections

    public int print(int piece, int voice) throws IndexOutOfBoundsException, IllegalStateException {
        Part part = readPart(piece, voice);
        if (part.textFault != RIGHT || copyCount >= MOST_COPIES) {
            throw new IllegalStateException("the text is not right or there are too many copies");
        }
        part.isPrinted = true;
        Copy copy = copies[copyCount];
        copy.part = piece * VOICES + voice;
        copyCount++;
        singCopy(copy);
        return copyCount - 1;
    }

    public int lend(int copy, int singer) throws IndexOutOfBoundsException, IllegalStateException {
        Copy lent = copyOf(copy);
        if (singer < 0 || singer >= SINGERS) {
            throw new IndexOutOfBoundsException("no such singer");
        }
        if (lent.holder != NONE || hasCopyOf(singer, lent.part / VOICES)) {
            throw new IllegalStateException("the copy is lent or the singer has one of the piece");
        }
        lent.holder = singer;
        lent.marks.become(parts[lent.part].marks);
        singCopy(lent);
        return lent.marks.size;
    }

    public int back(int copy) throws IndexOutOfBoundsException, IllegalStateException {
        Copy returned = copyOf(copy);
        if (returned.holder == NONE) {
            throw new IllegalStateException("the copy is not lent");
        }
        return takeBack(returned);
    }

    public int pencil(int copy, int token, int kind, int value) throws IndexOutOfBoundsException, IllegalArgumentException, IllegalStateException {
        Copy marked = copyOf(copy);
        Tokens row = parts[marked.part].row;
        if (!row.has(token)) {
            throw new IndexOutOfBoundsException("no such token");
        }
        if (!corrections.isValue(kind, value)) {
            throw new IllegalArgumentException("no such kind of correction, or value for it");
        }
        if (marked.holder == NONE || !corrections.isFor(kind, row.kind[token]) || corrections.count >= MOST_CORRECTIONS) {
            throw new IllegalStateException("the copy is not lent, the token not of that kind, or all corrections are used");
        }
        int correction = corrections.add(token, kind, value);
        marked.marks.add(correction);
        singCopy(marked);
        return correction;
    }

    public int holder(int copy) throws IndexOutOfBoundsException {
        return copyOf(copy).holder;
    }

    public int copyError(int copy) throws IndexOutOfBoundsException {
        return copyOf(copy).music.fault;
    }

    public int copyPitch(int copy, int bar, int tick) throws IndexOutOfBoundsException {
        Music music = copyOf(copy).music;
        mustHave(music, bar, tick);
        return music.pitchAt(bar, tick);
    }

    public int copyPitchAnew(int copy, int bar, int tick) throws IndexOutOfBoundsException {
        Copy asked = copyOf(copy);
        readText(parts[asked.part], anewRow);
        singing.sing(anewRow, asked.marks, corrections, anewMusic);
        mustHave(anewMusic, bar, tick);
        return anewMusic.pitchAt(bar, tick);
    }

    public boolean begins(int copy, int bar, int tick) throws IndexOutOfBoundsException {
        Music music = copyOf(copy).music;
        mustHave(music, bar, tick);
        return music.noteBeginsAt(bar, tick);
    }

    public int differ(int copy, int other) throws IndexOutOfBoundsException, IllegalArgumentException, IllegalStateException {
        Copy one = copyOf(copy);
        Copy two = copyOf(other);
        if (one.part != two.part) {
            throw new IllegalArgumentException("the copies are of unlike parts");
        }
        if (one.music.fault != RIGHT || two.music.fault != RIGHT) {
            throw new IllegalStateException("a copy is not right");
        }
        return one.music.barsUnlike(two.music);
    }

    // ---- clashes

    public int clashes(int piece, int bar) throws IndexOutOfBoundsException {
        mustBePiece(piece);
        if (bar < 0 || bar >= MOST_BARS) {
            throw new IndexOutOfBoundsException("no such bar");
        }
        int found = 0;
        for (int kind = LENGTHS; kind <= CROSSED; kind++) {
            found += clashesIn(piece, bar, kind);
        }
        return found;
    }

    public int clashesOf(int piece, int kind) throws IndexOutOfBoundsException, IllegalArgumentException {
        mustBePiece(piece);
        if (kind < LENGTHS || kind > CROSSED) {
            throw new IllegalArgumentException("no such kind of clash");
        }
        int found = 0;
        for (int bar = 0; bar < MOST_BARS; bar++) {
            found += clashesIn(piece, bar, kind);
        }
        return found;
    }

    // ---- rehearsals

    public int day() {
        return rehearsals.beginDay();
    }

    public int room(int room, int places) throws IndexOutOfBoundsException, IllegalArgumentException {
        if (room < 0 || room >= ROOMS) {
            throw new IndexOutOfBoundsException("no such room");
        }
        if (places < 0 || places > MOST_PLACES) {
            throw new IllegalArgumentException("no such number of places");
        }
        int before = rehearsals.places[room];
        rehearsals.places[room] = places;
        return before;
    }

    public int ask(int piece, int voices, int from, int to) throws IndexOutOfBoundsException, IllegalArgumentException, IllegalStateException {
        mustBePiece(piece);
        if (voices < 1 || voices > ALL_VOICES || from < 0 || from >= MOST_BARS || to < from || to >= MOST_BARS) {
            throw new IllegalArgumentException("no such voices or bars");
        }
        if (rehearsals.requestCount >= MOST_REQUESTS) {
            throw new IllegalStateException("there are too many requests");
        }
        return rehearsals.add(piece, voices, from, to);
    }

    public int plan() {
        int found = 0;
        for (int request = 0; request < rehearsals.requestCount; request++) {
            if (rehearsals.given[request] == NONE && rehearse(request)) {
                found++;
            }
        }
        return found;
    }

    public int done(int request) throws IndexOutOfBoundsException {
        if (request < 0 || request >= rehearsals.requestCount) {
            throw new IndexOutOfBoundsException("no such request");
        }
        return rehearsals.given[request];
    }

    public int learned(int singer, int piece, int voice, int bar) throws IndexOutOfBoundsException {
        mustBeSingerAndPart(singer, piece, voice);
        if (bar < 0 || bar >= MOST_BARS) {
            throw new IndexOutOfBoundsException("no such bar");
        }
        return learning.timesOf(singer, piece * VOICES + voice, bar);
    }

    public int misled(int singer, int piece, int voice) throws IndexOutOfBoundsException {
        mustBeSingerAndPart(singer, piece, voice);
        int part = piece * VOICES + voice;
        return learning.learnedOtherwise(singer, part, parts[part].music);
    }

    // ---- concerts

    public int judge(int piece) throws IndexOutOfBoundsException {
        mustBePiece(piece);
        return verdictOn(piece);
    }

    public int concert(int piece) throws IndexOutOfBoundsException, IllegalStateException {
        mustBePiece(piece);
        if (verdictOn(piece) != READY) {
            throw new IllegalStateException("the piece is not ready");
        }
        int singers = 0;
        for (int copy = 0; copy < copyCount; copy++) {
            if (copies[copy].isLentOf(piece)) {
                takeBack(copies[copy]);
                singers++;
            }
        }
        concertCount++;
        return singers;
    }

    public int concerts() {
        return concertCount;
    }

    // ---- what the arguments must be

    private void mustBePiece(int piece) {
        if (piece < 0 || piece >= PIECES) {
            throw new IndexOutOfBoundsException("no such piece");
        }
    }

    private Part partOf(int piece, int voice) {
        if (piece < 0 || piece >= PIECES || voice < 0 || voice >= VOICES) {
            throw new IndexOutOfBoundsException("no such piece or voice");
        }
        return parts[piece * VOICES + voice];
    }

    private void mustBeSingerAndPart(int singer, int piece, int voice) {
        if (singer < 0 || singer >= SINGERS || piece < 0 || piece >= PIECES || voice < 0 || voice >= VOICES) {
            throw new IndexOutOfBoundsException("no such singer, piece or voice");
        }
    }

    private Copy copyOf(int copy) {
        if (copy < 0 || copy >= copyCount) {
            throw new IndexOutOfBoundsException("no such copy");
        }
        return copies[copy];
    }

    private void mustHave(Music music, int bar, int tick) {
        if (!music.has(bar) || tick < 0 || tick >= music.barTicks) {
            throw new IndexOutOfBoundsException("no such bar or tick");
        }
    }

    // ---- reading and singing

    /** Reads a text when it is asked for, not letter by letter as it is written. */
    private Part readPart(int piece, int voice) {
        Part part = partOf(piece, voice);
        if (!part.isRead) {
            readText(part, part.row);
            singing.sing(part.row, part.marks, corrections, part.music);
            part.textFault = part.music.fault;
            part.textFaultAt = part.music.faultAt;
            part.isRead = true;
        }
        return part;
    }

    private void readText(Part part, Tokens row) {
        reader.readAll(part.letters, part.length, row);
        if (row.fault == RIGHT) {
            grammar.check(row);
        }
    }

    private void singCopy(Copy copy) {
        singing.sing(parts[copy.part].row, copy.marks, corrections, copy.music);
    }

    /** The text of a printed part is never read again, so its own fault stays apart from that of the library's music. */
    private int takeBack(Copy copy) {
        Part part = parts[copy.part];
        copy.holder = NONE;
        int taken = part.marks.takeIn(copy.marks);
        if (taken > 0) {
            singing.sing(part.row, part.marks, corrections, part.music);
        }
        return taken;
    }

    private boolean hasCopyOf(int singer, int piece) {
        for (int copy = 0; copy < copyCount; copy++) {
            if (copies[copy].holder == singer && copies[copy].part / VOICES == piece) {
                return true;
            }
        }
        return false;
    }

    // ---- holding bars against one another

    private int clashesIn(int piece, int bar, int kind) {
        if (kind == LENGTHS) {
            return isOfUnlikeLengths(piece, bar) ? 1 : 0;
        }
        boolean isUnlike = isOfUnlikeTicks(piece, bar);
        if (kind == METERS) {
            return isUnlike ? 1 : 0;
        }
        if (isUnlike) {
            return 0;
        }
        int found = 0;
        for (int lower = 1; lower < VOICES; lower++) {
            for (int upper = 0; upper < lower; upper++) {
                Part high = parts[piece * VOICES + upper];
                Part low = parts[piece * VOICES + lower];
                if (high.isHeld() && low.isHeld()) {
                    found += high.music.clashesWith(low.music, bar, kind);
                }
            }
        }
        return found;
    }

    private boolean isOfUnlikeLengths(int piece, int bar) {
        int held = 0;
        int having = 0;
        for (int voice = 0; voice < VOICES; voice++) {
            Part part = parts[piece * VOICES + voice];
            if (part.isHeld()) {
                held++;
                having += part.music.has(bar) ? 1 : 0;
            }
        }
        return having > 0 && having < held;
    }

    private boolean isOfUnlikeTicks(int piece, int bar) {
        int ticks = NONE;
        for (int voice = 0; voice < VOICES; voice++) {
            Part part = parts[piece * VOICES + voice];
            if (part.isHeld() && part.music.has(bar)) {
                if (ticks != NONE && ticks != part.music.barTicks) {
                    return true;
                }
                ticks = part.music.barTicks;
            }
        }
        return false;
    }

    // ---- rehearsing

    /** Finds a room for a request and holds it there; answers whether there was one. */
    private boolean rehearse(int request) {
        int singers = 0;
        for (int copy = 0; copy < copyCount; copy++) {
            if (isSungFrom(copies[copy], request)) {
                singers |= 1 << copies[copy].holder;
            }
        }
        if (singers == 0 || !rehearsals.give(request, singers)) {
            return false;
        }
        for (int copy = 0; copy < copyCount; copy++) {
            if (isSungFrom(copies[copy], request)) {
                learnFrom(copies[copy], rehearsals.from[request], rehearsals.to[request]);
            }
        }
        return true;
    }

    private boolean isSungFrom(Copy copy, int request) {
        return copy.isLentOf(rehearsals.piece[request])
            && (rehearsals.voices[request] & 1 << (copy.part % VOICES)) != 0
            && copy.music.fault == RIGHT
            && copy.music.has(rehearsals.to[request]);
    }

    private void learnFrom(Copy copy, int from, int to) {
        for (int bar = from; bar <= to; bar++) {
            learning.learn(copy.holder, copy.part, copy.music, bar);
        }
    }

    // ---- judging

    private int verdictOn(int piece) {
        if (!isLentInAllVoices(piece)) {
            return NO_COPY;
        }
        if (hasWrongCopy(piece)) {
            return WRONG;
        }
        if (hasUnlikeCopies(piece)) {
            return UNLIKE;
        }
        if (hasUnevenVoices(piece)) {
            return UNEVEN;
        }
        return isLearned(piece) ? READY : UNLEARNED;
    }

    private boolean isLentInAllVoices(int piece) {
        int voices = 0;
        for (int copy = 0; copy < copyCount; copy++) {
            if (copies[copy].isLentOf(piece)) {
                voices |= 1 << (copies[copy].part % VOICES);
            }
        }
        return voices == ALL_VOICES;
    }

    private boolean hasWrongCopy(int piece) {
        for (int copy = 0; copy < copyCount; copy++) {
            if (copies[copy].isLentOf(piece) && copies[copy].music.fault != RIGHT) {
                return true;
            }
        }
        return false;
    }

    private boolean hasUnlikeCopies(int piece) {
        for (int copy = 0; copy < copyCount; copy++) {
            for (int other = 0; other < copy; other++) {
                if (copies[copy].isLentOf(piece) && copies[other].isLentOf(piece)
                    && copies[copy].part == copies[other].part
                    && copies[copy].music.barsUnlike(copies[other].music) > 0) {
                    return true;
                }
            }
        }
        return false;
    }

    private boolean hasUnevenVoices(int piece) {
        for (int copy = 0; copy < copyCount; copy++) {
            for (int other = 0; other < copy; other++) {
                if (copies[copy].isLentOf(piece) && copies[other].isLentOf(piece)
                    && !copies[copy].music.isEvenWith(copies[other].music)) {
                    return true;
                }
            }
        }
        return false;
    }

    private boolean isLearned(int piece) {
        for (int copy = 0; copy < copyCount; copy++) {
            if (copies[copy].isLentOf(piece) && !learning.knowsAll(copies[copy].holder, copies[copy].part, copies[copy].music)) {
                return false;
            }
        }
        return true;
    }

    /** The text of a part, and what the library has of it. */
    private static final class Part {
        final char[] letters = new char[MOST_LETTERS];
        int length;
        boolean isRead;
        boolean isPrinted;
        int textFault;
        int textFaultAt;
        final Tokens row = new Tokens();
        final Marks marks = new Marks();
        final Music music = new Music();

        /** Whether it is one of those that are held against one another. */
        boolean isHeld() {
            return isPrinted && music.fault == RIGHT;
        }
    }

    /** A copy of a part, with what singers have pencilled into it. */
    private static final class Copy {
        int part;
        int holder = NONE;
        final Marks marks = new Marks();
        final Music music = new Music();

        boolean isLentOf(int piece) {
            return holder != NONE && part / VOICES == piece;
        }
    }

    /** A row of tokens, and the first fault in reading or parsing it. */
    private static final class Tokens {
        int count;
        /** How many characters the text has. */
        int end;
        int fault;
        int faultAt;
        final int[] kind = new int[MOST_TOKENS];
        /** The place of its first character in the text. */
        final int[] start = new int[MOST_TOKENS];
        /** The clef; sharps, or flats below 0; ticks of the meter; times; or number of an ending. */
        final int[] number = new int[MOST_TOKENS];
        final int[] place = new int[MOST_TOKENS];
        final int[] sign = new int[MOST_TOKENS];
        final int[] ticks = new int[MOST_TOKENS];
        final boolean[] isTied = new boolean[MOST_TOKENS];
        /** The OPEN of a CLOSE, the LAST_OF of a FIRST_OF. */
        final int[] mate = new int[MOST_TOKENS];

        boolean has(int token) {
            return token >= 0 && token < count;
        }

        void clear(int letters) {
            count = 0;
            end = letters;
            fault = RIGHT;
            faultAt = NONE;
        }

        void fail(int kindOfFault, int at) {
            fault = kindOfFault;
            faultAt = at;
        }

        void add(int kindOfToken, int at, int itsNumber) {
            if (count >= MOST_TOKENS) {
                return;
            }
            kind[count] = kindOfToken;
            start[count] = at;
            number[count] = itsNumber;
            place[count] = 0;
            sign[count] = 0;
            ticks[count] = 0;
            isTied[count] = false;
            mate[count] = NONE;
            count++;
        }

        void become(Tokens other) {
            count = other.count;
            end = other.end;
            fault = other.fault;
            faultAt = other.faultAt;
            for (int token = 0; token < count; token++) {
                kind[token] = other.kind[token];
                start[token] = other.start[token];
                number[token] = other.number[token];
                place[token] = other.place[token];
                sign[token] = other.sign[token];
                ticks[token] = other.ticks[token];
                isTied[token] = other.isTied[token];
                mate[token] = other.mate[token];
            }
        }
    }

    /** Reads a text into tokens. */
    private static final class Reader {
        private final char[] letters = new char[MOST_LETTERS];
        private int length;
        /** The place of the token that is being read. */
        private int at;

        void readAll(char[] text, int textLength, Tokens row) {
            length = Math.min(textLength, Math.min(text.length, MOST_LETTERS));
            for (int letter = 0; letter < length; letter++) {
                letters[letter] = text[letter];
            }
            at = 0;
            row.clear(length);
            for (int turn = 0; turn <= MOST_LETTERS && row.fault == RIGHT; turn++) {
                passSpaces();
                if (at >= length) {
                    return;
                }
                if (row.count >= MOST_TOKENS || !readOne(row)) {
                    row.fail(TOKEN, at);
                }
            }
        }

        private void passSpaces() {
            while (at < length && letterAt(0) == ' ') {
                at++;
            }
        }

        /** The letter so many places behind the beginning of the token; 0 behind the end of the text. */
        private char letterAt(int ahead) {
            int there = at + ahead;
            return there >= 0 && there < length ? letters[there] : (char) 0;
        }

        private boolean readOne(Tokens row) {
            switch (letterAt(0)) {
                case '@':
                    return readClef(row);
                case '#':
                    return readKey(row, 1);
                case 'b':
                    return readKey(row, -1);
                case 'M':
                    return readMeter(row);
                case 'r':
                    return readRest(row);
                case '|':
                    return take(row, BAR, 0, 1);
                case '[':
                    return take(row, OPEN, 0, 1);
                case ']':
                    return readClose(row);
                case '(':
                    return readFirstOf(row);
                case ')':
                    return take(row, LAST_OF, 0, 1);
                default:
                    return readNote(row);
            }
        }

        private boolean take(Tokens row, int kind, int number, int many) {
            row.add(kind, at, number);
            at += many;
            return true;
        }

        private boolean readClef(Tokens row) {
            char letter = letterAt(1);
            if (letter != 'G' && letter != 'F' && letter != 'C') {
                return false;
            }
            return take(row, CLEF, letter == 'G' ? 0 : letter == 'F' ? 1 : 2, 2);
        }

        private boolean readKey(Tokens row, int change) {
            int many = digitAt(1);
            return many >= 0 && many <= 7 && take(row, KEY, change * many, 2);
        }

        private boolean readMeter(Tokens row) {
            int beats = digitAt(1);
            int unit = digitAt(3);
            if (beats < 1 || letterAt(2) != '/' || unit != 4 && unit != 8) {
                return false;
            }
            int ticks = beats * (unit == 4 ? 4 : 2);
            return ticks >= LEAST_METER && ticks <= MOST_TICKS && take(row, METER, ticks, 4);
        }

        private boolean readClose(Tokens row) {
            int times = digitAt(1);
            return times >= 2 && times <= 4 && take(row, CLOSE, times, 2);
        }

        private boolean readFirstOf(Tokens row) {
            int ending = digitAt(1);
            return ending >= 1 && ending <= 4 && letterAt(2) == ':' && take(row, FIRST_OF, ending, 3);
        }

        private boolean readRest(Tokens row) {
            int ticks = ticksOf(letterAt(1), letterAt(2));
            if (ticks == 0) {
                return false;
            }
            int token = row.count;
            take(row, REST, 0, isDotted(letterAt(1), letterAt(2)) ? 3 : 2);
            if (row.has(token)) {
                row.ticks[token] = ticks;
            }
            return true;
        }

        private boolean readNote(Tokens row) {
            int sign = signOf(letterAt(0));
            int ahead = sign == 0 ? 0 : 1;
            boolean isBelow = letterAt(ahead) == '-';
            ahead += isBelow ? 1 : 0;
            int place = digitAt(ahead);
            if (place < 0) {
                return false;
            }
            ahead++;
            if (digitAt(ahead) >= 0) {
                place = 10 * place + digitAt(ahead);
                ahead++;
            }
            place = isBelow ? -place : place;
            int ticks = ticksOf(letterAt(ahead), letterAt(ahead + 1));
            if (place < LOWEST_PLACE || place > HIGHEST_PLACE || ticks == 0) {
                return false;
            }
            ahead += isDotted(letterAt(ahead), letterAt(ahead + 1)) ? 2 : 1;
            boolean isTied = letterAt(ahead) == '~';
            int token = row.count;
            take(row, NOTE, 0, isTied ? ahead + 1 : ahead);
            if (row.has(token)) {
                row.place[token] = place;
                row.sign[token] = sign;
                row.ticks[token] = ticks;
                row.isTied[token] = isTied;
            }
            return true;
        }

        private int signOf(char letter) {
            return letter == '^' ? 1 : letter == '_' ? 2 : letter == '=' ? 3 : 0;
        }

        private int digitAt(int ahead) {
            char letter = letterAt(ahead);
            return letter >= '0' && letter <= '9' ? letter - '0' : NONE;
        }

        /** The ticks of the length that the two letters begin; 0 if they begin none. */
        private int ticksOf(char letter, char next) {
            int plain = plainTicksOf(letter);
            return next == '.' && plain > 1 ? plain + plain / 2 : plain;
        }

        private boolean isDotted(char letter, char next) {
            return next == '.' && plainTicksOf(letter) > 1;
        }

        private int plainTicksOf(char letter) {
            switch (letter) {
                case 'w':
                    return 16;
                case 'h':
                    return 8;
                case 'q':
                    return 4;
                case 'e':
                    return 2;
                case 's':
                    return 1;
                default:
                    return 0;
            }
        }
    }

    /** Parses a row of tokens: finds its first fault, and the mates of its repeats and endings. */
    private static final class Grammar {
        static final int HEADER_TOKENS = 3;
        static final int DEEPEST = 3;
        private final int[] open = new int[DEEPEST];
        /** The number of the last ending in each open repeat, 0 for none. */
        private final int[] endings = new int[DEEPEST];
        private int depth;
        /** The FIRST_OF of the ending that is open, or NONE. */
        private int ending;

        void check(Tokens row) {
            depth = 0;
            ending = NONE;
            for (int token = 0; token < row.count; token++) {
                int fault = token < HEADER_TOKENS ? headerFault(row, token) : bodyFault(row, token);
                if (fault != RIGHT) {
                    row.fail(fault, row.start[token]);
                    return;
                }
            }
            if (row.count < HEADER_TOKENS) {
                row.fail(HEADER, row.end);
            } else if (depth > 0) {
                row.fail(UNCLOSED, row.end);
            }
        }

        private int headerFault(Tokens row, int token) {
            int due = token == 0 ? CLEF : token == 1 ? KEY : METER;
            return row.kind[token] == due ? RIGHT : HEADER;
        }

        private int bodyFault(Tokens row, int token) {
            switch (row.kind[token]) {
                case KEY:
                case METER:
                    return UNEXPECTED;
                case OPEN:
                    return openRepeat(token);
                case CLOSE:
                    return closeRepeat(row, token);
                case FIRST_OF:
                    return openEnding(row, token);
                case LAST_OF:
                    return closeEnding(row, token);
                default:
                    return isBehindEnding() ? UNEXPECTED : RIGHT;
            }
        }

        private boolean isBehindEnding() {
            return depth > 0 && ending == NONE && endings[depth - 1] > 0;
        }

        private int openRepeat(int token) {
            if (ending != NONE || isBehindEnding()) {
                return UNEXPECTED;
            }
            if (depth >= DEEPEST) {
                return DEEP;
            }
            open[depth] = token;
            endings[depth] = 0;
            depth++;
            return RIGHT;
        }

        private int closeRepeat(Tokens row, int token) {
            if (depth == 0 || ending != NONE) {
                return UNEXPECTED;
            }
            if (endings[depth - 1] > 0 && endings[depth - 1] != row.number[token]) {
                return ENDINGS;
            }
            depth--;
            row.mate[token] = open[depth];
            return RIGHT;
        }

        private int openEnding(Tokens row, int token) {
            if (depth == 0 || ending != NONE) {
                return UNEXPECTED;
            }
            if (row.number[token] != endings[depth - 1] + 1) {
                return ENDINGS;
            }
            endings[depth - 1]++;
            ending = token;
            return RIGHT;
        }

        private int closeEnding(Tokens row, int token) {
            if (!row.has(ending)) {
                return UNEXPECTED;
            }
            row.mate[ending] = token;
            ending = NONE;
            return RIGHT;
        }
    }

    /** All corrections, by the numbers that they got when they were pencilled. */
    private static final class Corrections {
        int count;
        private final int[] token = new int[MOST_CORRECTIONS];
        private final int[] kind = new int[MOST_CORRECTIONS];
        private final int[] value = new int[MOST_CORRECTIONS];

        /** Whether there is such a kind, and such a value for it. */
        boolean isValue(int ofKind, int itsValue) {
            if (ofKind < TO_CLEF || ofKind > TO_REST) {
                return false;
            }
            if (itsValue == AS_PRINTED) {
                return true;
            }
            switch (ofKind) {
                case TO_CLEF:
                    return itsValue >= 0 && itsValue <= 2;
                case TO_PLACE:
                    return itsValue >= LOWEST_PLACE && itsValue <= HIGHEST_PLACE;
                case TO_SIGN:
                    return itsValue >= 0 && itsValue <= 3;
                case TO_TICKS:
                    return isLength(itsValue);
                default:
                    return itsValue == 0 || itsValue == 1;
            }
        }

        private boolean isLength(int ticks) {
            switch (ticks) {
                case 1:
                case 2:
                case 3:
                case 4:
                case 6:
                case 8:
                case 12:
                case 16:
                case 24:
                    return true;
                default:
                    return false;
            }
        }

        /** Whether a kind of correction is for a kind of token. */
        boolean isFor(int ofKind, int kindOfToken) {
            if (ofKind == TO_CLEF) {
                return kindOfToken == CLEF;
            }
            return kindOfToken == NOTE || ofKind == TO_TICKS && kindOfToken == REST;
        }

        int add(int forToken, int ofKind, int itsValue) {
            if (count >= MOST_CORRECTIONS) {
                return NONE;
            }
            token[count] = forToken;
            kind[count] = ofKind;
            value[count] = itsValue;
            count++;
            return count - 1;
        }

        /** Makes a row the printed one with these corrections, by rising numbers, so that the greatest one tells. */
        void apply(Tokens printed, Marks marks, Tokens row) {
            row.become(printed);
            for (int correction = 0; correction < count; correction++) {
                if (marks.has[correction] && row.has(token[correction])) {
                    applyOne(correction, printed, row);
                }
            }
        }

        private void applyOne(int correction, Tokens printed, Tokens row) {
            int at = token[correction];
            int to = value[correction];
            boolean asPrinted = to == AS_PRINTED;
            switch (kind[correction]) {
                case TO_CLEF:
                    row.number[at] = asPrinted ? printed.number[at] : to;
                    break;
                case TO_PLACE:
                    row.place[at] = asPrinted ? printed.place[at] : to;
                    break;
                case TO_SIGN:
                    row.sign[at] = asPrinted ? printed.sign[at] : to;
                    break;
                case TO_TICKS:
                    row.ticks[at] = asPrinted ? printed.ticks[at] : to;
                    break;
                default:
                    row.kind[at] = to == 1 ? REST : NOTE;
                    break;
            }
        }
    }

    /** A set of corrections. */
    private static final class Marks {
        final boolean[] has = new boolean[MOST_CORRECTIONS];
        int size;

        void add(int correction) {
            if (correction >= 0 && correction < MOST_CORRECTIONS && !has[correction]) {
                has[correction] = true;
                size++;
            }
        }

        void become(Marks other) {
            for (int correction = 0; correction < MOST_CORRECTIONS; correction++) {
                has[correction] = other.has[correction];
            }
            size = other.size;
        }

        /** Answers how many of the other set were not in this one. */
        int takeIn(Marks other) {
            int before = size;
            for (int correction = 0; correction < MOST_CORRECTIONS; correction++) {
                if (other.has[correction]) {
                    add(correction);
                }
            }
            return size - before;
        }
    }

    /** Bars as they are sung, or the fault that keeps them from being sung. */
    private static final class Music {
        /** What is added to a pitch where its note begins. */
        static final int BEGINS = 128;
        int fault;
        int faultAt;
        int barCount;
        int barTicks;
        /** Two numbers a bar, eight bits a tick (0 for a rest), so that bars are alike if both their numbers are equal. */
        private final long[] sounds = new long[2 * MOST_BARS];

        void clear(int ticks) {
            fault = RIGHT;
            faultAt = NONE;
            barCount = 0;
            barTicks = ticks;
        }

        void fail(int kindOfFault, int at) {
            fault = kindOfFault;
            faultAt = at;
            barCount = 0;
        }

        boolean has(int bar) {
            return bar >= 0 && bar < barCount;
        }

        /** Adds a bar; if it is not full, a rest goes ahead. */
        void add(int[] heard, int filled) {
            if (barCount >= MOST_BARS || filled > heard.length || filled > barTicks) {
                return;
            }
            sounds[2 * barCount] = 0;
            sounds[2 * barCount + 1] = 0;
            for (int from = 0; from < filled; from++) {
                int tick = barTicks - filled + from;
                sounds[2 * barCount + (tick < 8 ? 0 : 1)] |= ((long) heard[from]) << (8 * (tick & 7));
            }
            barCount++;
        }

        long earlyTicks(int bar) {
            return has(bar) ? sounds[2 * bar] : 0;
        }

        long lateTicks(int bar) {
            return has(bar) ? sounds[2 * bar + 1] : 0;
        }

        private int soundAt(int bar, int tick) {
            long half = tick < 8 ? earlyTicks(bar) : lateTicks(bar);
            return (int) (half >>> (8 * (tick & 7))) & 255;
        }

        int pitchAt(int bar, int tick) {
            int sound = soundAt(bar, tick);
            return sound == 0 ? SILENCE : sound & (BEGINS - 1);
        }

        boolean noteBeginsAt(int bar, int tick) {
            return (soundAt(bar, tick) & BEGINS) != 0;
        }

        /** In how many bars this and other music of the same part are not alike. */
        int barsUnlike(Music other) {
            int unlike = 0;
            for (int bar = 0; bar < barCount || bar < other.barCount; bar++) {
                if (!has(bar) || !other.has(bar) || earlyTicks(bar) != other.earlyTicks(bar) || lateTicks(bar) != other.lateTicks(bar)) {
                    unlike++;
                }
            }
            return unlike;
        }

        /** How often this music and that of a lower voice are HARSH, or CROSSED, in a bar. */
        int clashesWith(Music lower, int bar, int kind) {
            if (!has(bar) || !lower.has(bar)) {
                return 0;
            }
            int found = 0;
            for (int tick = 0; tick < barTicks; tick++) {
                int high = pitchAt(bar, tick);
                int low = lower.pitchAt(bar, tick);
                if (high != SILENCE && low != SILENCE
                    && (noteBeginsAt(bar, tick) || lower.noteBeginsAt(bar, tick))
                    && (kind == HARSH ? isHarsh(high - low) : low > high)) {
                    found++;
                }
            }
            return found;
        }

        private boolean isHarsh(int difference) {
            int left = Math.abs(difference) % 12;
            return left == 1 || left == 11;
        }

        boolean isEvenWith(Music other) {
            return barCount == other.barCount && (barCount == 0 || barTicks == other.barTicks);
        }
    }

    /** Sings a row of tokens, bar by bar. */
    private static final class Singing {
        private static final int MOST_STEPS = 50;
        private static final int UNSIGNED = 9;
        /** Far above the turns that sixty tokens can take in three repeats of four times. */
        private static final int MOST_TURNS = 1000000;
        private static final int[] LETTER_PITCH = {0, 2, 4, 5, 7, 9, 11};
        /** How many letters are sharp ahead of C, D, E and so on, by the row F, C, G, D, A, E, B. */
        private static final int[] SHARP_AHEAD = {1, 3, 5, 0, 2, 4, 6};
        private final Tokens row = new Tokens();
        private final int[] steps = new int[MOST_TOKENS];
        /** The change that a sign tells for a step since the last BAR, or UNSIGNED. */
        private final int[] signed = new int[MOST_STEPS];
        private final int[] heard = new int[MOST_TICKS];
        private int filled;
        private final int[] time = new int[Grammar.DEEPEST + 1];
        private int depth;
        private int at;
        private int sharps;
        /** The NOTE that is tied to what is sung next, or NONE. */
        private int tying;
        private int tyingPitch;
        private int tyingChange;

        void sing(Tokens printed, Marks marks, Corrections corrections, Music music) {
            if (printed.fault != RIGHT || printed.count < Grammar.HEADER_TOKENS) {
                music.clear(0);
                music.fail(printed.fault, printed.faultAt);
                return;
            }
            corrections.apply(printed, marks, row);
            begin();
            music.clear(row.number[2]);
            for (int turn = 0; turn < MOST_TURNS && row.has(at) && music.fault == RIGHT; turn++) {
                singToken(music);
            }
            if (music.fault == RIGHT) {
                finish(music);
            }
        }

        private void begin() {
            sharps = row.number[1];
            filled = 0;
            depth = 0;
            tying = NONE;
            at = Grammar.HEADER_TOKENS;
            Arrays.fill(signed, UNSIGNED);
            findSteps();
        }

        /** The clef goes by the text, not as it is sung. */
        private void findSteps() {
            int lowest = 0;
            for (int token = 0; token < row.count; token++) {
                if (row.kind[token] == CLEF) {
                    int clef = row.number[token];
                    lowest = clef == 0 ? 30 : clef == 1 ? 18 : 24;
                }
                steps[token] = lowest + row.place[token];
            }
        }

        private void singToken(Music music) {
            switch (row.kind[at]) {
                case NOTE:
                    singNote(music);
                    break;
                case REST:
                    singRest(music);
                    break;
                case BAR:
                    endBar(music, row.start[at]);
                    break;
                case OPEN:
                    openRepeat();
                    break;
                case CLOSE:
                    closeRepeat();
                    return;
                case FIRST_OF:
                    at = row.number[at] == time[depth] ? at : row.mate[at];
                    break;
                default:
                    break;
            }
            at++;
        }

        private void openRepeat() {
            if (depth < Grammar.DEEPEST) {
                depth++;
                time[depth] = 1;
            }
        }

        private void closeRepeat() {
            if (time[depth] < row.number[at]) {
                time[depth]++;
                at = row.mate[at] + 1;
            } else {
                depth = Math.max(0, depth - 1);
                at++;
            }
        }

        private void singNote(Music music) {
            int step = steps[at];
            int sign = row.sign[at];
            boolean isTiedTo = tying != NONE;
            int change = isTiedTo ? tyingChange : changeOf(step, sign);
            int pitch = 12 * (step / 7) + LETTER_PITCH[Math.floorMod(step, 7)] + change;
            if (isTiedTo && (pitch != tyingPitch || sign != 0 && changeBySign(sign) != change)) {
                failTie(music);
                return;
            }
            if (!fill(music, isTiedTo ? pitch : pitch + Music.BEGINS, pitch)) {
                return;
            }
            if (sign != 0 && step >= 0 && step < MOST_STEPS) {
                signed[step] = changeBySign(sign);
            }
            tying = row.isTied[at] ? at : NONE;
            tyingPitch = pitch;
            tyingChange = change;
        }

        private void singRest(Music music) {
            if (tying != NONE) {
                failTie(music);
                return;
            }
            fill(music, 0, 0);
        }

        private void failTie(Music music) {
            music.fail(TIE, row.has(tying) ? row.start[tying] : NONE);
        }

        /** Puts a first sound into the bar and a later one behind it, as long as the token tells; answers whether there was room. */
        private boolean fill(Music music, int first, int later) {
            int until = filled + row.ticks[at];
            if (until > music.barTicks || until > MOST_TICKS) {
                music.fail(LONG, row.start[at]);
                return false;
            }
            for (int tick = filled; tick < until; tick++) {
                heard[tick] = tick == filled ? first : later;
            }
            filled = until;
            return true;
        }

        private void endBar(Music music, int place) {
            if (filled == 0 || filled < music.barTicks && music.barCount > 0) {
                music.fail(SHORT, place);
            } else if (music.barCount >= MOST_BARS) {
                music.fail(MANY, place);
            } else {
                music.add(heard, filled);
                filled = 0;
                Arrays.fill(signed, UNSIGNED);
            }
        }

        private void finish(Music music) {
            if (tying != NONE) {
                failTie(music);
            } else if (filled > 0) {
                endBar(music, row.end);
            }
        }

        private int changeOf(int step, int sign) {
            if (sign != 0) {
                return changeBySign(sign);
            }
            if (step >= 0 && step < MOST_STEPS && signed[step] != UNSIGNED) {
                return signed[step];
            }
            return changeByKey(Math.floorMod(step, 7));
        }

        private int changeBySign(int sign) {
            return sign == 1 ? 1 : sign == 2 ? -1 : 0;
        }

        /** The flats go through the row of the sharps from its end. */
        private int changeByKey(int letter) {
            if (letter < 0 || letter >= SHARP_AHEAD.length) {
                return 0;
            }
            return SHARP_AHEAD[letter] < sharps ? 1 : 6 - SHARP_AHEAD[letter] < -sharps ? -1 : 0;
        }
    }

    /** The requests, and the rooms of this day. */
    private static final class Rehearsals {
        final int[] piece = new int[MOST_REQUESTS];
        final int[] voices = new int[MOST_REQUESTS];
        final int[] from = new int[MOST_REQUESTS];
        final int[] to = new int[MOST_REQUESTS];
        /** The day, slot and room, as they are told; or NONE. */
        final int[] given = new int[MOST_REQUESTS];
        int requestCount;
        final int[] places = new int[ROOMS];
        private int today;
        private final boolean[] isTaken = new boolean[SLOTS * ROOMS];
        /** The singers who sing in each slot of this day, a bit for each one. */
        private final int[] singing = new int[SLOTS];

        Rehearsals() {
            for (int room = 0; room < ROOMS; room++) {
                places[room] = 4;
            }
        }

        int add(int ofPiece, int itsVoices, int firstBar, int lastBar) {
            if (requestCount >= MOST_REQUESTS) {
                return NONE;
            }
            piece[requestCount] = ofPiece;
            voices[requestCount] = itsVoices;
            from[requestCount] = firstBar;
            to[requestCount] = lastBar;
            given[requestCount] = NONE;
            requestCount++;
            return requestCount - 1;
        }

        int beginDay() {
            today++;
            for (int slot = 0; slot < SLOTS; slot++) {
                singing[slot] = 0;
                for (int room = 0; room < ROOMS; room++) {
                    isTaken[slot * ROOMS + room] = false;
                }
            }
            return today;
        }

        /** Gives a request its slot and room; answers whether there is one on this day. */
        boolean give(int request, int singers) {
            for (int slot = 0; slot < SLOTS; slot++) {
                for (int room = 0; room < ROOMS; room++) {
                    if ((singing[slot] & singers) == 0 && !isTaken[slot * ROOMS + room] && places[room] >= Integer.bitCount(singers)) {
                        singing[slot] |= singers;
                        isTaken[slot * ROOMS + room] = true;
                        given[request] = 100 * today + 10 * slot + room;
                        return true;
                    }
                }
            }
            return false;
        }
    }

    /** What each singer has learned last for each bar of each part, and how often. */
    private static final class Learning {
        private final int[] times = new int[SINGERS * PARTS * MOST_BARS];
        private final long[] early = new long[SINGERS * PARTS * MOST_BARS];
        private final long[] late = new long[SINGERS * PARTS * MOST_BARS];

        private int indexOf(int singer, int part, int bar) {
            return (singer * PARTS + part) * MOST_BARS + bar;
        }

        int timesOf(int singer, int part, int bar) {
            return times[indexOf(singer, part, bar)];
        }

        void learn(int singer, int part, Music music, int bar) {
            int index = indexOf(singer, part, bar);
            times[index] = knows(singer, part, music, bar) ? times[index] + 1 : 1;
            early[index] = music.earlyTicks(bar);
            late[index] = music.lateTicks(bar);
        }

        private boolean knows(int singer, int part, Music music, int bar) {
            int index = indexOf(singer, part, bar);
            return times[index] > 0 && music.has(bar) && early[index] == music.earlyTicks(bar) && late[index] == music.lateTicks(bar);
        }

        boolean knowsAll(int singer, int part, Music music) {
            for (int bar = 0; bar < music.barCount; bar++) {
                if (!knows(singer, part, music, bar)) {
                    return false;
                }
            }
            return true;
        }

        /** How many bars were learned last otherwise than the music has them. */
        int learnedOtherwise(int singer, int part, Music music) {
            int found = 0;
            for (int bar = 0; bar < MOST_BARS; bar++) {
                if (timesOf(singer, part, bar) > 0 && !knows(singer, part, music, bar)) {
                    found++;
                }
            }
            return found;
        }
    }
}
