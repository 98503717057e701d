/** Each sentence on days, rooms, requests and learning, and of the promises 23 to 29, that names a boundary, with a test of its own. */
public final class RehearsalEdgeTest {
    private static final String TEXT = "@G#0M1/8 0e|1e|";
    private static final String FORTY = "@G#0M1/8 [[[0e|]4]3]3[0e|]3 1e";

    public static void main(String[] args) {
        slotsAndPlaces();
        whoSings();
        whereTo();
        learning();
        rooms();
        requests();
        asked();
        Check.end("RehearsalEdgeTest");
    }

    /** A text as all voices of the pieces 0 and 1, printed once each; the copies 0 to 3 and 4 to 7. */
    private static PartSongDesk desk(String text) {
        PartSongDesk desk = new PartSongDesk();
        for (int part = 0; part < 8; part++) {
            Check.write(desk, part / 4, part % 4, text);
            desk.print(part / 4, part % 4);
        }
        return desk;
    }

    /** The same, with the copies 0 to 7 lent to the singers 0 to 7. */
    private static PartSongDesk lent(String text) {
        PartSongDesk desk = desk(text);
        for (int copy = 0; copy < 8; copy++) {
            desk.lend(copy, copy);
        }
        return desk;
    }

    /** Asks for the bar 0, plans, and tells where it was. */
    private static int place(PartSongDesk desk, int piece, int voices) {
        return place(desk, piece, voices, 0, 0);
    }

    private static int place(PartSongDesk desk, int piece, int voices, int from, int to) {
        int request = desk.ask(piece, voices, from, to);
        desk.plan();
        return desk.done(request);
    }

    private static void due(String what, int got, int want) {
        Check.due(what, () -> got, want);
    }

    private static void slotsAndPlaces() {
        Check.sentence("A day has 4 slots", () -> {
            PartSongDesk desk = lent(TEXT);
            for (int slot = 0; slot < 4; slot++) {
                due("the slot " + slot, place(desk, 0, 1), 10 * slot);
            }
            due("no fifth slot", place(desk, 0, 1), PartSongDesk.NONE);
            due("another singer has four", place(desk, 0, 2), 1);
            Check.due("day", () -> desk.day(), 1);
            Check.due("the one that was left", () -> desk.plan(), 1);
            Check.due("in the slot 0", () -> desk.done(4), 100);
        });
        Check.sentence("a room has some places, 4 at first", () -> {
            PartSongDesk desk = lent(TEXT);
            due("four singers", place(desk, 0, 15), 0);
            desk.print(0, 0);
            desk.lend(8, 8);
            due("five singers", place(desk, 0, 15), PartSongDesk.NONE);
            for (int room = 0; room < 4; room++) {
                int r = room;
                Check.due("the places of the room " + r, () -> desk.room(r, r == 3 ? 5 : 4), 4);
            }
            Check.due("one room has five", () -> desk.plan(), 1);
            Check.due("the room 3", () -> desk.done(1), 13);
        });
        Check.sentence("and the rooms 0 to 3", () -> {
            PartSongDesk desk = lent(TEXT);
            for (int room = 0; room < 4; room++) {
                due("the room " + room, place(desk, 0, 1 << room), room);
            }
            due("no fifth room", place(desk, 1, 1), 10);
            for (int bad : new int[] {-1, 4, 5, Integer.MIN_VALUE, Integer.MAX_VALUE}) {
                Check.due("the room " + bad, () -> desk.room(bad, 4), Check.INDEX);
            }
        });
    }

    private static void whoSings() {
        Check.sentence("To plan is to go through the requests that are not done, by rising numbers", () -> {
            PartSongDesk desk = desk(TEXT);
            Check.due("nothing to plan", () -> desk.plan(), 0);
            desk.ask(0, 2, 0, 0);
            desk.ask(0, 1, 0, 0);
            desk.ask(0, 3, 0, 0);
            Check.due("nobody sings", () -> desk.plan(), 0);
            desk.lend(0, 0);
            desk.lend(1, 1);
            Check.due("all three", () -> desk.plan(), 3);
            Check.due("the first one", () -> desk.done(0), 0);
            Check.due("the second one", () -> desk.done(1), 1);
            Check.due("the third one", () -> desk.done(2), 10);
            Check.due("none is left", () -> desk.plan(), 0);
            Check.due("none is learned again", () -> desk.learned(0, 0, 0, 0), 2);
        });
        Check.sentence("the singers who have a copy of the piece, of one of these voices, that is RIGHT and has all of these bars", () -> {
            for (int voice = 0; voice < 4; voice++) {
                PartSongDesk desk = desk(TEXT);
                desk.lend(voice, 11);
                due("all voices but this one", place(desk, 0, 15 - (1 << voice)), PartSongDesk.NONE);
                due("the voice of another piece", place(desk, 1, 1 << voice), PartSongDesk.NONE);
                due("one bar too many", place(desk, 0, 1 << voice, 0, 2), PartSongDesk.NONE);
                due("none but one too many", place(desk, 0, 1 << voice, 2, 2), PartSongDesk.NONE);
                due("all bars", place(desk, 0, 1 << voice, 0, 1), 0);
                due("the last bar", place(desk, 0, 1 << voice, 1, 1), 10);
                desk.pencil(voice, 3, PartSongDesk.TO_TICKS, 3);
                due("a copy that is LONG", place(desk, 0, 1 << voice), PartSongDesk.NONE);
                desk.pencil(voice, 3, PartSongDesk.TO_TICKS, 2);
                Check.due("RIGHT again", () -> desk.plan(), 1);
                desk.back(voice);
                due("a copy that lies in the library", place(desk, 0, 1 << voice), PartSongDesk.NONE);
            }
            PartSongDesk forty = desk(FORTY);
            forty.lend(0, 0);
            due("forty bars", place(forty, 0, 1, 0, 39), 0);
            PartSongDesk less = desk("@G#0M1/8 [[[0e|]4]3]3[0e|]3");
            less.lend(0, 0);
            due("39 bars", place(less, 0, 1, 0, 39), PartSongDesk.NONE);
            due("39 bars", place(less, 0, 1, 0, 38), 0);
        });
        Check.sentence("If there is at least one", () -> {
            PartSongDesk desk = desk(TEXT);
            desk.room(0, 0);
            due("none", place(desk, 0, 15), PartSongDesk.NONE);
            desk.lend(2, 0);
            Check.due("one", () -> desk.plan(), 1);
            Check.due("where", () -> desk.done(0), 1);
        });
    }

    private static void whereTo() {
        Check.sentence("the request is given the first slot, and in it the lowest room, in which the room is not taken yet on this day", () -> {
            PartSongDesk desk = lent(TEXT);
            for (int i = 0; i < 16; i++) {
                due("the request " + i, place(desk, i / 2 % 2, 1 << i % 2 + 2 * (i / 8)), i / 8 * 20 + i / 4 % 2 * 10 + i % 4);
            }
            due("all sixteen are taken", place(desk, 0, 1), PartSongDesk.NONE);
            Check.due("day", () -> desk.day(), 1);
            Check.due("plan", () -> desk.plan(), 1);
            Check.due("all are free again", () -> desk.done(16), 100);
            for (int i = 1; i < 16; i++) {
                due("the request " + i + " of the next day", place(desk, i / 2 % 2, 1 << i % 2 + 2 * (i / 8)), 100 + i / 8 * 20 + i / 4 % 2 * 10 + i % 4);
            }
            due("all sixteen are taken again", place(desk, 0, 1), PartSongDesk.NONE);
        });
        Check.sentence("has enough places", () -> {
            PartSongDesk desk = lent(TEXT);
            desk.room(0, 2);
            desk.room(1, 3);
            desk.room(2, 0);
            due("three singers", place(desk, 0, 7), 1);
            due("two singers of another piece", place(desk, 1, 3), 0);
            due("four singers have a room in a later slot", place(desk, 0, 15), 13);
            desk.room(3, 1);
            due("four singers", place(desk, 1, 15), PartSongDesk.NONE);
            due("one singer", place(desk, 1, 4), 3);
            due("nobody in a room without places", place(desk, 1, 8), 10);
        });
        Check.sentence("and none of them sings in another room of this slot on this day", () -> {
            PartSongDesk desk = lent(TEXT);
            due("the singers 0 and 1", place(desk, 0, 3), 0);
            due("the singers 1 and 2", place(desk, 0, 6), 10);
            due("the singer 2", place(desk, 0, 4), 1);
            due("the singers 0 and 3", place(desk, 0, 9), 11);
            due("the singer 3", place(desk, 0, 8), 2);
            due("all", place(desk, 0, 15), 20);
            desk.back(4);
            desk.lend(4, 0);
            due("the singer 0 with another piece", place(desk, 1, 1), 30);
            desk.back(5);
            desk.lend(5, 8);
            due("a singer who is free", place(desk, 1, 2), 3);
            Check.due("day", () -> desk.day(), 1);
            due("free again on the next day", place(desk, 0, 3), 100);
        });
    }

    private static void learning() {
        Check.sentence("Then it is done; each of them learns each of these bars, as the copy has it", () -> {
            PartSongDesk desk = lent("@G#0M1/8 0e|1e|2e|3e|");
            due("two voices, two bars", place(desk, 0, 5, 1, 2), 0);
            for (int singer = 0; singer < 4; singer++) {
                for (int bar = 0; bar < 5; bar++) {
                    int s = singer;
                    int b = bar;
                    Check.due("the singer " + s + ", the bar " + b, () -> desk.learned(s, 0, s, b), s % 2 == 0 && (b == 1 || b == 2) ? 1 : 0);
                }
            }
            Check.due("none of another voice", () -> desk.learned(0, 0, 2, 1), 0);
            Check.due("none of another piece", () -> desk.learned(4, 1, 0, 1), 0);
        });
        Check.sentence("learning a bar that is alike to what the singer has learned last for that part and bar is once more, learning another one is once", () -> {
            PartSongDesk desk = lent(TEXT);
            Check.due("never", () -> desk.learned(0, 0, 0, 0), 0);
            for (int times = 1; times <= 4; times++) {
                int t = times;
                place(desk, 0, 1, 0, 1);
                Check.due("alike", () -> desk.learned(0, 0, 0, 0), t);
            }
            desk.day();
            desk.pencil(0, 3, PartSongDesk.TO_PLACE, 5);
            place(desk, 0, 1, 0, 1);
            Check.due("another one", () -> desk.learned(0, 0, 0, 0), 1);
            Check.due("the one beside it", () -> desk.learned(0, 0, 0, 1), 5);
            desk.pencil(0, 3, PartSongDesk.TO_PLACE, 0);
            place(desk, 0, 1);
            Check.due("as it was ahead of that", () -> desk.learned(0, 0, 0, 0), 1);
            place(desk, 0, 1);
            Check.due("once more", () -> desk.learned(0, 0, 0, 0), 2);
            desk.pencil(0, 3, PartSongDesk.TO_REST, 1);
            place(desk, 0, 1);
            Check.due("a rest", () -> desk.learned(0, 0, 0, 0), 1);
        });
        Check.sentence("each of them learns each of these bars, as the copy has it", () -> {
            for (int piece = 0; piece < 3; piece++) {
                learnedByOne(5, piece);
            }
            learnedByOne(0, 2);
            learnedByOne(11, 2);
            PartSongDesk late = lent("@G#0M4/4 0h0h");
            place(late, 0, 1);
            place(late, 0, 1);
            Check.due("alike in both halves of the bar", () -> late.learned(0, 0, 0, 0), 2);
            late.pencil(0, 4, PartSongDesk.TO_PLACE, 9);
            place(late, 0, 1);
            Check.due("unlike in the second half", () -> late.learned(0, 0, 0, 0), 1);
            late.pencil(0, 4, PartSongDesk.TO_PLACE, 5);
            place(late, 0, 1);
            Check.due("unlike once more", () -> late.learned(0, 0, 0, 0), 1);
            late.day();
            place(late, 0, 1);
            Check.due("alike to that", () -> late.learned(0, 0, 0, 0), 2);
            Check.due("but not to the library", () -> late.misled(0, 0, 0), 1);
        });
        Check.sentence("one that is tied to does not begin", () -> {
            PartSongDesk desk = lent("@G#0M1/8 0e~|0e|");
            place(desk, 0, 1, 1, 1);
            desk.pencil(0, 3, PartSongDesk.TO_REST, 1);
            place(desk, 0, 1, 1, 1);
            Check.due("the same pitches, but a beginning", () -> desk.learned(0, 0, 0, 1), 1);
            place(desk, 0, 1, 1, 1);
            Check.due("and that once more", () -> desk.learned(0, 0, 0, 1), 2);
        });
    }

    /** One singer learns all of the last voice of a piece, and no one else anything. */
    private static void learnedByOne(int singer, int piece) {
        PartSongDesk desk = new PartSongDesk();
        Check.write(desk, piece, 3, FORTY);
        desk.print(piece, 3);
        desk.lend(0, singer);
        due("the rehearsal", place(desk, piece, 8, 0, 39), 0);
        for (int part = 0; part < 12; part++) {
            for (int other = 0; other < 12; other++) {
                int p = part / 4;
                int v = part % 4;
                int s = other;
                int want = s == singer && part == piece * 4 + 3 ? 1 : 0;
                Check.due("the first bar", () -> desk.learned(s, p, v, 0), want);
                Check.due("the last bar", () -> desk.learned(s, p, v, 39), want);
                if (s == singer) {
                    Check.due("misled", () -> desk.misled(s, p, v), 0);
                }
            }
        }
    }

    private static void rooms() {
        Check.sentence("places: 0 to 12", () -> {
            PartSongDesk desk = new PartSongDesk();
            Check.due("at first", () -> desk.room(3, 12), 4);
            for (int bad : new int[] {-1, 13, 14, Integer.MIN_VALUE, Integer.MAX_VALUE}) {
                Check.due("the places " + bad, () -> desk.room(3, bad), Check.ARGUMENT);
                Check.due("the places " + bad + " of no room", () -> desk.room(4, bad), Check.INDEX);
            }
            Check.due("12 before", () -> desk.room(3, 0), 12);
            Check.due("0 before", () -> desk.room(3, 0), 0);
            Check.due("the other ones", () -> desk.room(2, 1), 4);
            Check.write(desk, 2, 3, TEXT);
            for (int singer = 0; singer < 12; singer++) {
                desk.print(2, 3);
                desk.lend(singer, singer);
            }
            for (int room = 0; room < 4; room++) {
                desk.room(room, 11);
            }
            due("twelve singers, eleven places", place(desk, 2, 8), PartSongDesk.NONE);
            desk.room(3, 12);
            Check.due("twelve places", () -> desk.plan(), 1);
            Check.due("where", () -> desk.done(0), 3);
            for (int singer = 0; singer < 12; singer++) {
                int s = singer;
                Check.due("each of them learned it", () -> desk.learned(s, 2, 3, 0), 1);
            }
        });
        Check.sentence("Begins the next day, with all rooms free; returns it.", () -> {
            PartSongDesk desk = lent(TEXT);
            due("the day 0", place(desk, 0, 1), 0);
            for (int day = 1; day <= 10; day++) {
                int d = day;
                Check.due("day", () -> desk.day(), d);
            }
            due("the day 10", place(desk, 0, 1), 1000);
            due("its slot 1", place(desk, 0, 1), 1010);
            Check.due("what was done on the day 0", () -> desk.done(0), 0);
            for (int day = 11; day <= 200; day++) {
                int d = day;
                Check.due("day", () -> desk.day(), d);
            }
            due("the day 200", place(desk, 0, 2), 20000);
        });
    }

    private static void requests() {
        Check.sentence("voices: 1 to 15, a set", () -> {
            PartSongDesk desk = lent(TEXT);
            for (int bad : new int[] {-1, 0, 16, 17, 31, Integer.MIN_VALUE, Integer.MAX_VALUE}) {
                Check.due("the voices " + bad, () -> desk.ask(0, bad, 0, 0), Check.ARGUMENT);
            }
            for (int voices = 1; voices <= 15; voices++) {
                int v = voices;
                Check.due("ask", () -> desk.ask(0, v, 0, 0), v - 1);
                Check.due("plan", () -> desk.plan(), 1);
                for (int voice = 0; voice < 4; voice++) {
                    int s = voice;
                    int times = 0;
                    for (int one = 1; one <= voices; one++) {
                        times += one >> voice & 1;
                    }
                    int want = times;
                    Check.due("how often the voice " + s + " is in the sets", () -> desk.learned(s, 0, s, 0), want);
                }
                desk.day();
            }
        });
        Check.sentence("from: the first bar, 0 to 39", () -> {
            PartSongDesk desk = new PartSongDesk();
            for (int bad : new int[] {-1, 40, 41, Integer.MIN_VALUE, Integer.MAX_VALUE}) {
                Check.due("from " + bad, () -> desk.ask(0, 1, bad, 39), Check.ARGUMENT);
                Check.due("from " + bad + " to there", () -> desk.ask(0, 1, bad, bad), Check.ARGUMENT);
            }
            Check.due("from 0", () -> desk.ask(0, 1, 0, 39), 0);
            Check.due("from 39", () -> desk.ask(0, 1, 39, 39), 1);
        });
        Check.sentence("to: the last bar, from to 39", () -> {
            PartSongDesk desk = new PartSongDesk();
            for (int from = 0; from < 40; from += 13) {
                int f = from;
                for (int bad : new int[] {-1, from - 1, 40, 41, Integer.MIN_VALUE, Integer.MAX_VALUE}) {
                    Check.due("to " + bad, () -> desk.ask(0, 1, f, bad), Check.ARGUMENT);
                }
                Check.due("to the first one", () -> desk.ask(0, 1, f, f), f / 13 * 2);
                Check.due("to 39", () -> desk.ask(0, 1, f, 39), f / 13 * 2 + 1);
            }
        });
        Check.sentence("IllegalStateException if there are 40", () -> {
            PartSongDesk desk = lent(TEXT);
            for (int i = 0; i < 40; i++) {
                int request = i;
                Check.due("no request yet", () -> desk.done(request), Check.INDEX);
                Check.due("ask", () -> desk.ask(0, 1, 0, 0), request);
                Check.due("not done", () -> desk.done(request), PartSongDesk.NONE);
            }
            Check.due("the 41st", () -> desk.ask(0, 1, 0, 0), Check.STATE);
            Check.due("the 41st of no voices", () -> desk.ask(0, 0, 0, 0), Check.ARGUMENT);
            Check.due("the 41st of no piece", () -> desk.ask(3, 1, 0, 0), Check.INDEX);
            Check.due("no request 40", () -> desk.done(40), Check.INDEX);
            for (int day = 0; day < 10; day++) {
                Check.due("plan", () -> desk.plan(), 4);
                desk.day();
            }
            Check.due("the last one", () -> desk.done(39), 930);
            Check.due("all are done", () -> desk.plan(), 0);
            Check.due("those that are done count", () -> desk.ask(0, 1, 0, 0), Check.STATE);
        });
    }

    private static void asked() {
        Check.sentence("Returns 100 times the day, 10 times the slot, and the room, together; NONE if it is not done.", () -> {
            PartSongDesk desk = lent(TEXT);
            desk.day();
            for (int slot = 0; slot < 4; slot++) {
                for (int room = 0; room < 4; room++) {
                    due("the slot " + slot + ", the room " + room, place(desk, 0, 1 << room), 100 + 10 * slot + room);
                }
            }
            due("not done", place(desk, 0, 15), PartSongDesk.NONE);
            for (int bad : new int[] {-1, 17, 18, 39, 40, Integer.MIN_VALUE, Integer.MAX_VALUE}) {
                Check.due("the request " + bad, () -> desk.done(bad), Check.INDEX);
            }
        });
        Check.sentence("Returns how often; 0 if never.", () -> {
            PartSongDesk desk = new PartSongDesk();
            Check.write(desk, 2, 3, FORTY);
            Check.write(desk, 0, 0, FORTY);
            desk.print(2, 3);
            desk.print(0, 0);
            desk.lend(0, 11);
            desk.lend(1, 0);
            place(desk, 2, 8, 39, 39);
            place(desk, 0, 1, 0, 0);
            Check.due("the last one of all", () -> desk.learned(11, 2, 3, 39), 1);
            Check.due("the first one of all", () -> desk.learned(0, 0, 0, 0), 1);
            int[][] never = {{11, 2, 3, 38}, {11, 2, 2, 39}, {11, 1, 3, 39}, {10, 2, 3, 39}, {0, 0, 0, 1}, {0, 0, 1, 0}, {0, 1, 0, 0}, {1, 0, 0, 0}};
            for (int[] one : never) {
                Check.due("never", () -> desk.learned(one[0], one[1], one[2], one[3]), 0);
            }
            int[][] bad = {{-1, 0, 0, 0}, {12, 0, 0, 0}, {0, -1, 0, 0}, {0, 3, 0, 0}, {0, 0, -1, 0}, {0, 0, 4, 0}, {0, 0, 0, -1}, {0, 0, 0, 40}, {11, 2, 3, 40}, {12, 3, 4, 40}};
            for (int[] one : bad) {
                Check.due("learned", () -> desk.learned(one[0], one[1], one[2], one[3]), Check.INDEX);
                if (one[3] == 0) {
                    Check.due("misled", () -> desk.misled(one[0], one[1], one[2]), Check.INDEX);
                }
            }
        });
        Check.sentence("how many bars of a part a singer has learned last otherwise than the library has them now", () -> {
            PartSongDesk desk = lent("@G#0M1/8 [[[0e|]4]3]3[1e|]4");
            Check.due("none are learned", () -> desk.misled(0, 0, 0), 0);
            place(desk, 0, 1, 0, 39);
            Check.due("all as the library has them", () -> desk.misled(0, 0, 0), 0);
            desk.pencil(0, 12, PartSongDesk.TO_PLACE, 4);
            place(desk, 0, 1, 0, 39);
            Check.due("the last four", () -> desk.misled(0, 0, 0), 4);
            desk.pencil(0, 6, PartSongDesk.TO_PLACE, 4);
            place(desk, 0, 1, 1, 38);
            Check.due("all but one", () -> desk.misled(0, 0, 0), 39);
            place(desk, 0, 1, 0, 0);
            Check.due("all forty", () -> desk.misled(0, 0, 0), 40);
            Check.due("another singer", () -> desk.misled(1, 0, 1), 0);
            desk.back(0);
            Check.due("the library has them so now", () -> desk.misled(0, 0, 0), 0);
            for (int piece = 0; piece < 3; piece++) {
                int p = piece;
                PartSongDesk last = new PartSongDesk();
                Check.write(last, p, 3, TEXT);
                last.print(p, 3);
                last.lend(0, 11);
                last.pencil(0, 3, PartSongDesk.TO_PLACE, 4);
                place(last, p, 8, 0, 1);
                for (int part = 0; part < 12; part++) {
                    int q = part;
                    Check.due("one bar of the last voice", () -> last.misled(11, q / 4, q % 4), q == 4 * p + 3 ? 1 : 0);
                    Check.due("none by another singer", () -> last.misled(10, q / 4, q % 4), 0);
                }
            }
        });
        Check.sentence("Returns the bars; all that were learned, if the music of the part is not RIGHT.", () -> {
            PartSongDesk desk = lent(TEXT);
            place(desk, 0, 1, 1, 1);
            desk.pencil(0, 3, PartSongDesk.TO_TICKS, 3);
            Check.due("not in the library yet", () -> desk.misled(0, 0, 0), 0);
            desk.back(0);
            Check.due("the one that was learned", () -> desk.misled(0, 0, 0), 1);
            Check.due("one who has learned none", () -> desk.misled(1, 0, 0), 0);
            desk.lend(0, 0);
            desk.pencil(0, 3, PartSongDesk.TO_TICKS, 2);
            desk.back(0);
            Check.due("RIGHT again", () -> desk.misled(0, 0, 0), 0);
        });
    }
}
