/** Each sentence on judging and concerts, and of the promises 30 to 32, that names a boundary, with a test of its own. */
public final class ConcertEdgeTest {
    private static final String TEXT = "@G#0M1/8 0e|1e|";

    public static void main(String[] args) {
        verdicts();
        concerts();
        refused();
        lastCall();
        Check.end("ConcertEdgeTest");
    }

    /** The piece 0 with these texts, a copy of each voice lent to the singer of that number, and rooms for all. */
    private static PartSongDesk lent(String... texts) {
        PartSongDesk desk = new PartSongDesk();
        for (int voice = 0; voice < 4; voice++) {
            Check.write(desk, 0, voice, texts[voice]);
            desk.print(0, voice);
            desk.lend(voice, voice);
        }
        for (int room = 0; room < 4; room++) {
            desk.room(room, 12);
        }
        return desk;
    }

    private static PartSongDesk lent() {
        return lent(TEXT, TEXT, TEXT, TEXT);
    }

    /** The same, and all have learned all. */
    private static PartSongDesk ready() {
        PartSongDesk desk = lent();
        rehearse(desk, 0, 1);
        return desk;
    }

    private static void rehearse(PartSongDesk desk, int from, int to) {
        desk.day();
        desk.ask(0, 15, from, to);
        Check.due("the rehearsal has a room", () -> desk.plan(), 1);
    }

    /** What it is judged, and that there is a concert only if it is READY. */
    private static void due(PartSongDesk desk, String what, int verdict) {
        Check.due(what, () -> desk.judge(0), verdict);
        if (verdict != PartSongDesk.READY) {
            Check.due("no concert, for " + what, () -> desk.concert(0), Check.STATE);
            Check.due("it is judged as before", () -> desk.judge(0), verdict);
        }
    }

    private static void verdicts() {
        Check.sentence("NO_COPY: some voice has no copy that is lent", () -> {
            due(new PartSongDesk(), "a new object", PartSongDesk.NO_COPY);
            for (int voice = 0; voice < 4; voice++) {
                PartSongDesk desk = ready();
                due(desk, "all have one", PartSongDesk.READY);
                desk.back(voice);
                due(desk, "one lies in the library", PartSongDesk.NO_COPY);
                desk.print(0, voice);
                due(desk, "so does another one", PartSongDesk.NO_COPY);
                desk.lend(4, voice);
                due(desk, "another one is lent", PartSongDesk.READY);
                Check.due("another piece", () -> desk.judge(1), PartSongDesk.NO_COPY);
            }
        });
        Check.sentence("WRONG: some copy of it that is lent is not RIGHT", () -> {
            for (int voice = 0; voice < 4; voice++) {
                PartSongDesk desk = ready();
                desk.print(0, voice);
                desk.lend(4, 4);
                desk.pencil(4, 3, PartSongDesk.TO_TICKS, 3);
                due(desk, "the second copy of a voice is LONG", PartSongDesk.WRONG);
                desk.pencil(4, 3, PartSongDesk.TO_TICKS, 2);
                desk.pencil(4, 5, PartSongDesk.TO_TICKS, 1);
                due(desk, "it is SHORT", PartSongDesk.WRONG);
                desk.back(4);
                due(desk, "it lies in the library", PartSongDesk.READY);
                desk.pencil(voice, 3, PartSongDesk.TO_TICKS, 16);
                due(desk, "the first copy of a voice is LONG", PartSongDesk.WRONG);
                desk.pencil(voice, 3, PartSongDesk.TO_TICKS, 2);
                due(desk, "it is RIGHT", PartSongDesk.READY);
            }
        });
        Check.sentence("UNLIKE: two copies of one voice that are lent have not as many bars, or some bar that is not alike", () -> {
            for (int voice = 0; voice < 4; voice++) {
                PartSongDesk desk = ready();
                desk.print(0, voice);
                desk.lend(4, 4);
                rehearse(desk, 0, 1);
                due(desk, "they are alike", PartSongDesk.READY);
                desk.pencil(4, 5, PartSongDesk.TO_PLACE, 2);
                due(desk, "the last bar is unlike", PartSongDesk.UNLIKE);
                rehearse(desk, 0, 1);
                due(desk, "and is learned so", PartSongDesk.UNLIKE);
                desk.pencil(4, 5, PartSongDesk.TO_PLACE, 1);
                desk.pencil(4, 3, PartSongDesk.TO_REST, 1);
                due(desk, "the first bar is unlike", PartSongDesk.UNLIKE);
                desk.back(4);
                due(desk, "it lies in the library", PartSongDesk.READY);
            }
            PartSongDesk tied = lent("@G#0M1/8 0e~|0e|", TEXT, TEXT, TEXT);
            tied.print(0, 0);
            tied.lend(4, 4);
            rehearse(tied, 0, 1);
            due(tied, "they are alike", PartSongDesk.READY);
            tied.pencil(4, 3, PartSongDesk.TO_REST, 1);
            due(tied, "unlike by a rest, and by a beginning", PartSongDesk.UNLIKE);
            // copies of two voices need not be alike
            PartSongDesk voices = lent("@G#0M1/8 0e|2e|", "@F#0M1/8 rs|^9s9s|", TEXT, "@C#0M1/8 re|re|");
            rehearse(voices, 0, 1);
            due(voices, "unlike voices", PartSongDesk.READY);
        });
        Check.sentence("UNEVEN: two voices have, in copies that are lent, not as many bars, or a bar of unlike ticks", () -> {
            for (int voice = 0; voice < 4; voice++) {
                String[] texts = {TEXT, TEXT, TEXT, TEXT};
                texts[voice] = TEXT + "2e|";
                PartSongDesk more = lent(texts);
                rehearse(more, 0, 1);
                more.ask(0, 1 << voice, 2, 2);
                more.plan();
                due(more, "a bar more", PartSongDesk.UNEVEN);
                texts[voice] = "@G#0M1/8 0e|";
                PartSongDesk less = lent(texts);
                rehearse(less, 0, 0);
                due(less, "a bar less", PartSongDesk.UNEVEN);
                texts[voice] = "@G#0M3/8 0q.|1q.|";
                PartSongDesk longer = lent(texts);
                rehearse(longer, 0, 1);
                due(longer, "longer bars", PartSongDesk.UNEVEN);
                texts[voice] = "@G#0M1/8";
                due(lent(texts), "no bars", PartSongDesk.UNEVEN);
            }
            PartSongDesk alike = lent("@G#0M1/4 0q|", "@G#0M2/8 0q|", "@F#0M1/4 0q|", "@C#0M2/8 rq|");
            rehearse(alike, 0, 0);
            due(alike, "other meters of as many ticks", PartSongDesk.READY);
            due(lent("@G#0M1/8", "@G#0M1/4", "@G#0M4/4", "@G#0M8/8"), "no bar at all", PartSongDesk.READY);
        });
        Check.sentence("UNLEARNED: some singer who has a copy of it has not learned some bar last as the copy has it", () -> {
            for (int voice = 0; voice < 4; voice++) {
                PartSongDesk desk = lent();
                due(desk, "nothing is learned", PartSongDesk.UNLEARNED);
                desk.ask(0, 15 - (1 << voice), 0, 1);
                desk.ask(0, 1 << voice, 0, 0);
                desk.plan();
                due(desk, "but for the last bar of one voice", PartSongDesk.UNLEARNED);
                desk.ask(0, 1 << voice, 1, 1);
                desk.plan();
                due(desk, "all", PartSongDesk.READY);
                desk.pencil(voice, 3, PartSongDesk.TO_PLACE, 5);
                due(desk, "the first bar was changed", PartSongDesk.UNLEARNED);
                desk.pencil(voice, 3, PartSongDesk.TO_PLACE, 0);
                due(desk, "it is as it was", PartSongDesk.READY);
                desk.pencil(voice, 5, PartSongDesk.TO_PLACE, 5);
                due(desk, "the copy was changed", PartSongDesk.UNLEARNED);
                rehearse(desk, 1, 1);
                due(desk, "it was learned so", PartSongDesk.READY);
                desk.pencil(voice, 5, PartSongDesk.TO_PLACE, 1);
                due(desk, "what was learned ahead of that", PartSongDesk.UNLEARNED);
                rehearse(desk, 1, 1);
                desk.back(voice);
                desk.lend(voice, 11);
                due(desk, "a singer who has learned nothing", PartSongDesk.UNLEARNED);
            }
            PartSongDesk forty = lent("@G#0M1/8 [[[0e|]4]3]3[0e|]4", "@G#0M1/8 [[[0e|]4]3]3[0e|]4", "@G#0M1/8 [[[0e|]4]3]3[0e|]4", "@G#0M1/8 [[[0e|]4]3]3[0e|]4");
            rehearse(forty, 0, 38);
            due(forty, "but for the last bar", PartSongDesk.UNLEARNED);
            rehearse(forty, 39, 39);
            due(forty, "all forty", PartSongDesk.READY);
            String late = "@G#0M4/4 0h0h|0h0h|";
            PartSongDesk halves = lent(late, late, late, late);
            rehearse(halves, 0, 1);
            due(halves, "bars of sixteen ticks", PartSongDesk.READY);
            for (int place = -1; place <= 1; place++) {
                halves.pencil(2, 7, PartSongDesk.TO_PLACE, place);
                due(halves, "the second half of a bar", place == 0 ? PartSongDesk.READY : PartSongDesk.UNLEARNED);
            }
        });
        Check.sentence("A piece is judged by the first of these that is so", () -> {
            PartSongDesk desk = lent(TEXT, TEXT, TEXT + "0e|", TEXT);
            due(desk, "UNEVEN, UNLEARNED", PartSongDesk.UNEVEN);
            desk.print(0, 0);
            desk.lend(4, 4);
            desk.pencil(4, 3, PartSongDesk.TO_PLACE, 7);
            due(desk, "UNLIKE, UNEVEN, UNLEARNED", PartSongDesk.UNLIKE);
            desk.pencil(2, 3, PartSongDesk.TO_TICKS, 3);
            due(desk, "WRONG, UNLIKE, UNLEARNED", PartSongDesk.WRONG);
            desk.back(3);
            due(desk, "NO_COPY, WRONG, UNLIKE, UNLEARNED", PartSongDesk.NO_COPY);
        });
    }

    /** All pieces are judged alike, with as many copies as there may be, the last one among those that are lent. */
    private static void allCopies(int piece) {
        PartSongDesk desk = new PartSongDesk();
        for (int voice = 0; voice < 4; voice++) {
            Check.write(desk, piece, voice, TEXT);
            for (int copy = 0; copy < 10; copy++) {
                desk.print(piece, voice);
            }
        }
        Check.due("no copy is lent", () -> desk.judge(piece), PartSongDesk.NO_COPY);
        for (int singer = 0; singer < 12; singer++) {
            desk.lend(39 - 3 * singer, singer);
        }
        Check.due("twelve copies are lent", () -> desk.judge(piece), PartSongDesk.UNLEARNED);
        Check.due("another piece", () -> desk.judge((piece + 1) % 3), PartSongDesk.NO_COPY);
        Check.due("another piece", () -> desk.judge((piece + 2) % 3), PartSongDesk.NO_COPY);
        desk.room(1, 12);
        desk.ask(piece, 15, 0, 1);
        Check.due("one rehearsal", () -> desk.plan(), 1);
        Check.due("in the room with twelve places", () -> desk.done(0), 1);
        Check.due("all have learned it", () -> desk.judge(piece), PartSongDesk.READY);
        desk.pencil(39, 5, PartSongDesk.TO_PLACE, 0);
        Check.due("the last copy is unlike", () -> desk.judge(piece), PartSongDesk.UNLIKE);
        desk.pencil(39, 5, PartSongDesk.TO_TICKS, 1);
        Check.due("the last copy is SHORT", () -> desk.judge(piece), PartSongDesk.WRONG);
        Check.due("no concert", () -> desk.concert(piece), Check.STATE);
        desk.pencil(39, 5, PartSongDesk.TO_TICKS, PartSongDesk.AS_PRINTED);
        desk.pencil(39, 5, PartSongDesk.TO_PLACE, PartSongDesk.AS_PRINTED);
        Check.due("a concert", () -> desk.concert(piece), 12);
        Check.due("the last copy came back", () -> desk.holder(39), PartSongDesk.NONE);
        Check.due("with what was pencilled", () -> desk.lend(38, 0), 4);
    }

    private static void concerts() {
        Check.sentence("Judges a piece.", () -> {
            for (int piece = 0; piece < 3; piece++) {
                allCopies(piece);
            }
        });
        Check.sentence("Returns how many singers sing.", () -> {
            PartSongDesk four = ready();
            Check.due("four", () -> four.concert(0), 4);
            PartSongDesk twelve = lent();
            for (int singer = 4; singer < 12; singer++) {
                twelve.print(0, singer % 4);
                twelve.lend(singer, singer);
            }
            // those that lie in the library do not count, nor do those of another piece
            twelve.print(0, 0);
            Check.write(twelve, 1, 0, TEXT);
            twelve.print(1, 0);
            twelve.lend(13, 0);
            rehearse(twelve, 0, 1);
            Check.due("twelve", () -> twelve.concert(0), 12);
        });
        Check.sentence("After a concert all copies of the piece that are lent come back, by rising numbers.", () -> {
            PartSongDesk desk = lent();
            Check.write(desk, 2, 0, TEXT);
            desk.print(2, 0);
            desk.lend(4, 0);
            desk.pencil(0, 3, PartSongDesk.TO_PLACE, 3);
            desk.pencil(3, 5, PartSongDesk.TO_PLACE, 4);
            desk.pencil(4, 5, PartSongDesk.TO_PLACE, 5);
            rehearse(desk, 0, 1);
            Check.due("the library ahead of it", () -> desk.pitch(0, 0, 0, 0), 52);
            Check.due("concert", () -> desk.concert(0), 4);
            for (int copy = 0; copy < 4; copy++) {
                int c = copy;
                Check.due("it came back", () -> desk.holder(c), PartSongDesk.NONE);
                Check.due("it can't come back again", () -> desk.back(c), Check.STATE);
            }
            Check.due("a copy of another piece does not", () -> desk.holder(4), 0);
            Check.due("its correction is not in the library", () -> desk.pitch(2, 0, 1, 0), 53);
            Check.due("the first correction is", () -> desk.pitch(0, 0, 0, 0), 57);
            Check.due("the last correction is", () -> desk.pitch(0, 3, 1, 0), 59);
            due(desk, "no copy is lent any more", PartSongDesk.NO_COPY);
            for (int copy = 0; copy < 4; copy++) {
                int c = copy;
                Check.due("lend", () -> desk.lend(c, c), c % 3 == 0 ? 1 : 0);
            }
            due(desk, "as they had learned it", PartSongDesk.READY);
            Check.due("concert again", () -> desk.concert(0), 4);
        });
        Check.sentence("Returns how many concerts were held.", () -> {
            PartSongDesk desk = ready();
            Check.due("none", () -> desk.concerts(), 0);
            for (int concert = 1; concert <= 10; concert++) {
                int c = concert;
                Check.due("concert", () -> desk.concert(0), 4);
                Check.due("concerts", () -> desk.concerts(), c);
                Check.due("no concert without copies", () -> desk.concert(0), Check.STATE);
                Check.due("concerts", () -> desk.concerts(), c);
                for (int copy = 0; copy < 4; copy++) {
                    desk.lend(copy, copy);
                }
            }
        });
    }

    private static void refused() {
        Check.sentence("IndexOutOfBoundsException if there is no such piece", () -> {
            PartSongDesk desk = ready();
            for (int bad : new int[] {-1, 3, 4, Integer.MIN_VALUE, Integer.MAX_VALUE}) {
                Check.due("judge a piece " + bad, () -> desk.judge(bad), Check.INDEX);
                Check.due("a concert of a piece " + bad, () -> desk.concert(bad), Check.INDEX);
            }
            Check.due("judge the piece 2", () -> desk.judge(2), PartSongDesk.NO_COPY);
            Check.due("a concert of the piece 2", () -> desk.concert(2), Check.STATE);
            Check.due("a concert of the piece 0", () -> desk.concert(0), 4);
        });
        Check.sentence("IllegalStateException if it is not READY", () -> {
            PartSongDesk desk = lent();
            Check.due("UNLEARNED", () -> desk.concert(0), Check.STATE);
            Check.due("none was held", () -> desk.concerts(), 0);
            for (int copy = 0; copy < 4; copy++) {
                int c = copy;
                Check.due("no copy came back", () -> desk.holder(c), c);
            }
            rehearse(desk, 0, 1);
            Check.due("READY", () -> desk.concert(0), 4);
        });
    }

    private static void lastCall() {
        Check.sentence("An object is used for at most 512 calls after it has been made", () -> {
            PartSongDesk desk = new PartSongDesk();
            Check.write(desk, 0, 0, TEXT);
            for (int call = TEXT.length() + 1; call < 512; call++) {
                int day = call - TEXT.length();
                Check.due("the call " + call, () -> desk.day(), day);
            }
            Check.due("the call 512", () -> desk.bars(0, 0), 2);
        });
    }
}
