/** Promises 30 to 32: pieces are judged, and concerts held. */
public final class ConcertTest {
    private static final String[] TEXTS = {"@G#0M1/8 4e|5e|", "@G#0M1/8 2e|2e|", "@C#0M1/8 2e|2e|", "@F#0M1/8 2e|3e|"};

    public static void main(String[] args) {
        arguments();
        noCopy();
        wrong();
        unlike();
        uneven();
        unlearned();
        order();
        concert();
        correctionsComeBack();
        noBars();
        fortyCopies();
        Check.end("ConcertTest");
    }

    /** A piece whose copies 0 to 3 are lent to the singers 0 to 3; the copy 4 is of the voice 1. */
    private static PartSongDesk lent(int piece, String... texts) {
        PartSongDesk desk = new PartSongDesk();
        for (int voice = 0; voice < 4; voice++) {
            Check.write(desk, piece, voice, texts[voice]);
            desk.print(piece, voice);
            desk.lend(voice, voice);
        }
        desk.print(piece, 1);
        for (int room = 0; room < 4; room++) {
            desk.room(room, 12);
        }
        return desk;
    }

    private static void rehearse(PartSongDesk desk, int piece, int from, int to) {
        desk.day();
        desk.ask(piece, 15, from, to);
        Check.due("the rehearsal is found a room", () -> desk.plan(), 1);
    }

    private static void due(PartSongDesk desk, String what, int verdict) {
        Check.due(what, () -> desk.judge(0), verdict);
        if (verdict != PartSongDesk.READY) {
            Check.due("concert, when judged " + verdict, () -> desk.concert(0), Check.STATE);
        }
    }

    private static void arguments() {
        PartSongDesk desk = new PartSongDesk();
        for (int bad : new int[] {-1, 3, Integer.MAX_VALUE, Integer.MIN_VALUE}) {
            Check.due("judge a piece " + bad, () -> desk.judge(bad), Check.INDEX);
            Check.due("concert of a piece " + bad, () -> desk.concert(bad), Check.INDEX);
        }
        Check.due("concert of nothing", () -> desk.concert(0), Check.STATE);
        Check.due("concerts", () -> desk.concerts(), 0);
    }

    private static void noCopy() {
        for (int voice = 0; voice < 4; voice++) {
            PartSongDesk desk = lent(0, TEXTS);
            rehearse(desk, 0, 0, 1);
            due(desk, "all are there", PartSongDesk.READY);
            desk.back(voice);
            due(desk, "one lies in the library", PartSongDesk.NO_COPY);
            desk.lend(voice, 11);
            due(desk, "one who has not learned it", PartSongDesk.UNLEARNED);
            desk.back(voice);
            desk.lend(voice, voice);
            due(desk, "all are there", PartSongDesk.READY);
        }
    }

    private static void wrong() {
        for (int voice = 0; voice < 4; voice++) {
            PartSongDesk desk = lent(0, TEXTS);
            rehearse(desk, 0, 0, 1);
            desk.pencil(voice, 5, PartSongDesk.TO_TICKS, 16);
            due(desk, "one is LONG", PartSongDesk.WRONG);
            desk.pencil(voice, 5, PartSongDesk.TO_TICKS, 1);
            due(desk, "one is SHORT", PartSongDesk.WRONG);
            desk.pencil(voice, 5, PartSongDesk.TO_TICKS, 2);
            due(desk, "right again", PartSongDesk.READY);
        }
        PartSongDesk desk = lent(0, TEXTS);
        rehearse(desk, 0, 0, 1);
        desk.lend(4, 4);
        desk.pencil(4, 5, PartSongDesk.TO_TICKS, 16);
        due(desk, "the second copy of a voice is wrong", PartSongDesk.WRONG);
    }

    private static void unlike() {
        PartSongDesk desk = lent(0, TEXTS);
        desk.lend(4, 4);
        rehearse(desk, 0, 0, 1);
        due(desk, "five singers", PartSongDesk.READY);
        desk.pencil(4, 5, PartSongDesk.TO_PLACE, 3);
        due(desk, "two copies of a voice", PartSongDesk.UNLIKE);
        desk.pencil(1, 5, PartSongDesk.TO_PLACE, 3);
        due(desk, "alike again, but not learned so", PartSongDesk.UNLEARNED);
        rehearse(desk, 0, 1, 1);
        due(desk, "and learned", PartSongDesk.READY);
        desk.pencil(1, 5, PartSongDesk.TO_PLACE, 2);
        due(desk, "unlike once more", PartSongDesk.UNLIKE);
        desk.back(4);
        due(desk, "a copy in the library does not count", PartSongDesk.UNLEARNED);
        rehearse(desk, 0, 1, 1);
        due(desk, "learned again", PartSongDesk.READY);
        desk.lend(4, 5);
        due(desk, "lent as the library has it", PartSongDesk.UNLIKE);
    }

    private static void uneven() {
        for (int voice = 0; voice < 4; voice++) {
            String[] more = TEXTS.clone();
            more[voice] = TEXTS[voice] + "2e|";
            PartSongDesk one = lent(0, more);
            rehearse(one, 0, 0, 1);
            one.ask(0, 1 << voice, 2, 2);
            one.plan();
            due(one, "one voice has a bar more", PartSongDesk.UNEVEN);
            String[] longer = TEXTS.clone();
            longer[voice] = TEXTS[voice].replace("e", "q").replace("1/8", "1/4");
            PartSongDesk two = lent(0, longer);
            rehearse(two, 0, 0, 1);
            due(two, "one voice has longer bars", PartSongDesk.UNEVEN);
            String[] asLong = TEXTS.clone();
            asLong[voice] = TEXTS[voice].replace("e", "h").replace("1/8", "4/8");
            for (int other = 0; other < 4; other++) {
                asLong[other] = other == voice ? asLong[other] : TEXTS[other].replace("e", "h").replace("1/8", "2/4");
            }
            PartSongDesk three = lent(0, asLong);
            rehearse(three, 0, 0, 1);
            due(three, "unlike meters, but as long bars", PartSongDesk.READY);
        }
    }

    private static void unlearned() {
        PartSongDesk desk = lent(0, TEXTS);
        due(desk, "nothing is learned", PartSongDesk.UNLEARNED);
        rehearse(desk, 0, 0, 0);
        due(desk, "only the first bar", PartSongDesk.UNLEARNED);
        rehearse(desk, 0, 1, 1);
        due(desk, "all", PartSongDesk.READY);
        desk.pencil(3, 5, PartSongDesk.TO_SIGN, 1);
        due(desk, "the copy is another one now", PartSongDesk.UNLEARNED);
        desk.pencil(3, 5, PartSongDesk.TO_SIGN, 0);
        due(desk, "as it was learned", PartSongDesk.READY);
        desk.pencil(3, 5, PartSongDesk.TO_SIGN, 1);
        rehearse(desk, 0, 0, 1);
        due(desk, "learned anew", PartSongDesk.READY);
        desk.pencil(3, 5, PartSongDesk.TO_SIGN, 0);
        due(desk, "what was learned ahead of that is gone", PartSongDesk.UNLEARNED);
    }

    /** What is listed first goes ahead. */
    private static void order() {
        String[] texts = TEXTS.clone();
        texts[2] = "@C#0M1/8 2e|2e|2e|";
        PartSongDesk desk = lent(0, texts);
        due(desk, "UNEVEN ahead of UNLEARNED", PartSongDesk.UNEVEN);
        desk.lend(4, 4);
        desk.pencil(4, 3, PartSongDesk.TO_PLACE, 0);
        due(desk, "UNLIKE ahead of UNEVEN", PartSongDesk.UNLIKE);
        desk.pencil(4, 3, PartSongDesk.TO_TICKS, 24);
        due(desk, "WRONG ahead of UNLIKE", PartSongDesk.WRONG);
        desk.pencil(0, 3, PartSongDesk.TO_PLACE, 0);
        desk.back(3);
        due(desk, "NO_COPY ahead of WRONG", PartSongDesk.NO_COPY);
        Check.due("another piece", () -> desk.judge(1), PartSongDesk.NO_COPY);
    }

    private static void concert() {
        PartSongDesk desk = lent(2, TEXTS);
        Check.write(desk, 1, 0, "@G#0M1/8 0e|");
        desk.print(1, 0);
        desk.lend(5, 0);
        Check.due("judge another piece", () -> desk.judge(0), PartSongDesk.NO_COPY);
        desk.lend(4, 4);
        Check.due("judge", () -> desk.judge(2), PartSongDesk.UNLEARNED);
        Check.due("concert", () -> desk.concert(2), Check.STATE);
        Check.due("concerts", () -> desk.concerts(), 0);
        rehearse(desk, 2, 0, 1);
        Check.due("judge", () -> desk.judge(2), PartSongDesk.READY);
        Check.due("concert", () -> desk.concert(2), 5);
        Check.due("concerts", () -> desk.concerts(), 1);
        for (int copy = 0; copy < 5; copy++) {
            int c = copy;
            Check.due("all come back", () -> desk.holder(c), PartSongDesk.NONE);
            Check.due("once", () -> desk.back(c), Check.STATE);
        }
        Check.due("that of another piece does not", () -> desk.holder(5), 0);
        Check.due("concert again", () -> desk.concert(2), Check.STATE);
        for (int copy = 0; copy < 4; copy++) {
            desk.lend(copy, copy == 1 ? 4 : copy);
        }
        Check.due("lent again", () -> desk.concert(2), 4);
        Check.due("concerts", () -> desk.concerts(), 2);
        Check.due("learned stays", () -> desk.learned(4, 2, 1, 1), 1);
    }

    private static void correctionsComeBack() {
        PartSongDesk desk = lent(0, TEXTS);
        desk.pencil(0, 3, PartSongDesk.TO_PLACE, 6);
        desk.pencil(3, 3, PartSongDesk.TO_PLACE, 0);
        desk.pencil(3, 5, PartSongDesk.TO_PLACE, 0);
        rehearse(desk, 0, 0, 1);
        Check.due("misled ahead of the concert", () -> desk.misled(3, 0, 3), 2);
        Check.due("concert", () -> desk.concert(0), 4);
        Check.due("the library has the voice 0", () -> desk.pitch(0, 0, 0, 0), 62);
        Check.due("the library has the voice 3", () -> desk.pitch(0, 3, 0, 0), 31);
        Check.due("misled behind the concert", () -> desk.misled(3, 0, 3), 0);
        Check.due("lend with one", () -> desk.lend(0, 9), 1);
        Check.due("lend with two", () -> desk.lend(3, 8), 2);
        Check.due("lend with none", () -> desk.lend(2, 7), 0);
    }

    private static void noBars() {
        PartSongDesk desk = lent(0, "@G#0M1/8", "@G#0M1/4", "@G#0M1/8", "@G#0M1/8");
        Check.due("no bars at all", () -> desk.judge(0), PartSongDesk.READY);
        desk.ask(0, 15, 0, 0);
        Check.due("nobody has a bar", () -> desk.plan(), 0);
        Check.due("concert of no bars", () -> desk.concert(0), 4);
    }

    /** As many copies as there may be, and as many singers as there are, with the last copy among those that are lent. */
    private static void fortyCopies() {
        PartSongDesk desk = new PartSongDesk();
        for (int voice = 0; voice < 4; voice++) {
            Check.write(desk, 0, voice, TEXTS[voice]);
            for (int i = 0; i < 10; i++) {
                desk.print(0, voice);
            }
        }
        for (int singer = 0; singer < 12; singer++) {
            int s = singer;
            Check.due("lend", () -> desk.lend(39 - 3 * s, s), 0);
        }
        Check.due("a singer who has one", () -> desk.lend(38, 0), Check.STATE);
        Check.due("no copy 40", () -> desk.lend(40, 0), Check.INDEX);
        due(desk, "twelve have not learned it", PartSongDesk.UNLEARNED);
        desk.room(3, 11);
        desk.ask(0, 15, 0, 1);
        Check.due("no room has twelve places", () -> desk.plan(), 0);
        desk.room(3, 12);
        Check.due("one has", () -> desk.plan(), 1);
        Check.due("where it was", () -> desk.done(0), 3);
        due(desk, "twelve have learned it", PartSongDesk.READY);
        desk.pencil(39, 5, PartSongDesk.TO_PLACE, 0);
        due(desk, "the last copy is unlike", PartSongDesk.UNLIKE);
        desk.pencil(39, 5, PartSongDesk.TO_TICKS, 1);
        due(desk, "the last copy is wrong", PartSongDesk.WRONG);
        desk.pencil(39, 5, PartSongDesk.TO_TICKS, 100);
        desk.pencil(39, 5, PartSongDesk.TO_PLACE, 100);
        Check.due("all sing", () -> desk.concert(0), 12);
        Check.due("the last copy came back", () -> desk.holder(39), PartSongDesk.NONE);
        Check.due("with its corrections", () -> desk.lend(39, 0), 4);
    }
}
