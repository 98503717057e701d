/** Promises 23 to 29: days, rooms, requests, and what singers learn. */
public final class RehearsalTest {
    private static final String TEXT = "@G#0M1/8 0e|1e|2e|";

    public static void main(String[] args) {
        days();
        rooms();
        askArguments();
        fortyRequests();
        slotsAndRooms();
        places();
        singersAreBusy();
        whoSings();
        risingNumbers();
        learned();
        learnedArguments();
        misled();
        Check.end("RehearsalTest");
    }

    /** The piece 0 with four voices, and the piece 1 with one; copies 0 to 3 of the voices, 4 of the voice 0, 5 of the piece 1. */
    private static PartSongDesk desk() {
        PartSongDesk desk = new PartSongDesk();
        for (int voice = 0; voice < 4; voice++) {
            Check.write(desk, 0, voice, TEXT);
            desk.print(0, voice);
        }
        desk.print(0, 0);
        Check.write(desk, 1, 0, TEXT);
        desk.print(1, 0);
        return desk;
    }

    private static PartSongDesk lent() {
        PartSongDesk desk = desk();
        for (int copy = 0; copy < 5; copy++) {
            desk.lend(copy, copy);
        }
        desk.lend(5, 0);
        return desk;
    }

    /** Asks, plans, and tells where it was. */
    private static int place(PartSongDesk desk, int piece, int voices, int from, int to) {
        int request = desk.ask(piece, voices, from, to);
        desk.plan();
        return desk.done(request);
    }

    private static void days() {
        PartSongDesk desk = lent();
        Check.due("the day 0", () -> place(desk, 0, 2, 0, 0), 0);
        Check.due("day", () -> desk.day(), 1);
        Check.due("the day 1", () -> place(desk, 0, 2, 0, 0), 100);
        Check.due("day", () -> desk.day(), 2);
        Check.due("what was done stays", () -> desk.done(1), 100);
        for (int day = 3; day <= 123; day++) {
            int d = day;
            Check.due("day", () -> desk.day(), d);
        }
        Check.due("the day 123", () -> place(desk, 0, 2, 0, 0), 12300);
    }

    private static void rooms() {
        PartSongDesk desk = new PartSongDesk();
        for (int room = 0; room < 4; room++) {
            int r = room;
            Check.due("room at first", () -> desk.room(r, 0), 4);
            Check.due("room", () -> desk.room(r, 12), 0);
            Check.due("room 13", () -> desk.room(r, 13), Check.ARGUMENT);
            Check.due("room -1", () -> desk.room(r, -1), Check.ARGUMENT);
            Check.due("room", () -> desk.room(r, r), 12);
        }
        for (int bad : new int[] {-1, 4, Integer.MAX_VALUE, Integer.MIN_VALUE}) {
            Check.due("a room " + bad, () -> desk.room(bad, 99), Check.INDEX);
        }
        for (int room = 0; room < 4; room++) {
            int r = room;
            Check.due("each room has its own", () -> desk.room(r, 1), r);
        }
        desk.day();
        Check.due("places stay from day to day", () -> desk.room(2, 5), 1);
    }

    private static void askArguments() {
        PartSongDesk desk = new PartSongDesk();
        for (int bad : new int[] {-1, 3, Integer.MAX_VALUE, Integer.MIN_VALUE}) {
            Check.due("ask for a piece " + bad, () -> desk.ask(bad, 0, 0, 0), Check.INDEX);
        }
        for (int bad : new int[] {-1, 0, 16, Integer.MAX_VALUE, Integer.MIN_VALUE}) {
            Check.due("ask for voices " + bad, () -> desk.ask(0, bad, 0, 0), Check.ARGUMENT);
        }
        for (int bad : new int[] {-1, 40, Integer.MAX_VALUE, Integer.MIN_VALUE}) {
            Check.due("ask from " + bad, () -> desk.ask(0, 1, bad, 39), Check.ARGUMENT);
            Check.due("ask from " + bad + " to itself", () -> desk.ask(0, 1, bad, bad), Check.ARGUMENT);
            Check.due("ask to " + bad, () -> desk.ask(0, 1, 0, bad), Check.ARGUMENT);
        }
        Check.due("ask from 5 to 4", () -> desk.ask(0, 1, 5, 4), Check.ARGUMENT);
        Check.due("ask from 5 to 5", () -> desk.ask(0, 1, 5, 5), 0);
        Check.due("ask for all", () -> desk.ask(2, 15, 0, 39), 1);
        Check.due("ask for the last bar", () -> desk.ask(1, 8, 39, 39), 2);
        Check.due("done", () -> desk.done(2), PartSongDesk.NONE);
        Check.due("no request 3", () -> desk.done(3), Check.INDEX);
        Check.due("no request -1", () -> desk.done(-1), Check.INDEX);
        Check.due("nobody sings", () -> desk.plan(), 0);
        Check.due("not done", () -> desk.done(0), PartSongDesk.NONE);
    }

    private static void fortyRequests() {
        PartSongDesk desk = desk();
        desk.lend(0, 0);
        for (int i = 0; i < 40; i++) {
            int request = i;
            Check.due("ask", () -> desk.ask(0, 1, 0, 0), request);
        }
        Check.due("ask for the 41st", () -> desk.ask(0, 1, 0, 0), Check.STATE);
        Check.due("ask for the 41st of no voices", () -> desk.ask(0, 0, 0, 0), Check.ARGUMENT);
        Check.due("ask for the 41st of no piece", () -> desk.ask(3, 1, 0, 0), Check.INDEX);
        for (int day = 0; day < 10; day++) {
            int d = day;
            Check.due("four slots a day", () -> desk.plan(), 4);
            Check.due("and no more", () -> desk.plan(), 0);
            for (int slot = 0; slot < 4; slot++) {
                int s = slot;
                Check.due("done", () -> desk.done(d * 4 + s), 100 * d + 10 * s);
            }
            Check.due("day", () -> desk.day(), d + 1);
        }
        Check.due("all are done", () -> desk.plan(), 0);
        Check.due("learned as often", () -> desk.learned(0, 0, 0, 0), 40);
        Check.due("ask for the 41st once more", () -> desk.ask(0, 1, 0, 0), Check.STATE);
    }

    private static void slotsAndRooms() {
        PartSongDesk desk = lent();
        Check.due("the first one", () -> place(desk, 0, 2, 0, 0), 0);
        Check.due("another room of the slot", () -> place(desk, 0, 4, 0, 0), 1);
        Check.due("the same singer later", () -> place(desk, 0, 2, 0, 0), 10);
        Check.due("both later", () -> place(desk, 0, 6, 0, 0), 20);
        Check.due("a third room of the slot", () -> place(desk, 0, 8, 0, 0), 2);
        Check.due("the last room of the slot", () -> place(desk, 1, 1, 0, 0), 3);
        Check.due("the slot is full", () -> place(desk, 0, 1, 0, 0), 11);
        Check.due("three singers", () -> place(desk, 0, 14, 0, 0), 30);
        Check.due("no slot is left for one of them", () -> place(desk, 0, 2, 0, 0), PartSongDesk.NONE);
        Check.due("a slot is left for another one", () -> place(desk, 0, 1, 0, 0), 21);
        desk.day();
        Check.due("plan on the next day", () -> desk.plan(), 1);
        Check.due("what was left", () -> desk.done(8), 100);
    }

    private static void places() {
        PartSongDesk desk = lent();
        Check.due("five singers have no room", () -> place(desk, 0, 15, 0, 0), PartSongDesk.NONE);
        desk.room(2, 5);
        Check.due("plan", () -> desk.plan(), 1);
        Check.due("the room with places enough", () -> desk.done(0), 2);
        desk.room(0, 1);
        desk.room(1, 2);
        Check.due("two singers", () -> place(desk, 0, 6, 0, 0), 11);
        Check.due("one singer", () -> place(desk, 0, 8, 0, 0), 10);
        for (int room = 0; room < 4; room++) {
            desk.room(room, 0);
        }
        Check.due("no places at all", () -> place(desk, 0, 8, 0, 0), PartSongDesk.NONE);
        desk.room(3, 1);
        Check.due("plan", () -> desk.plan(), 1);
        Check.due("done", () -> desk.done(3), 23);
    }

    private static void singersAreBusy() {
        PartSongDesk desk = lent();
        Check.due("the piece 0", () -> place(desk, 0, 1, 0, 0), 0);
        Check.due("the same singer, another piece", () -> place(desk, 1, 1, 0, 0), 10);
        desk.back(5);
        desk.lend(5, 9);
        Check.due("another singer", () -> place(desk, 1, 1, 0, 0), 1);
        desk.back(0);
        desk.lend(0, 8);
        Check.due("one of two was busy", () -> place(desk, 0, 1, 0, 0), 11);
        desk.back(0);
        desk.back(4);
        desk.lend(0, 7);
        Check.due("the voice, but singers who were not busy", () -> place(desk, 0, 1, 0, 0), 2);
    }

    private static void whoSings() {
        PartSongDesk desk = desk();
        Check.due("nobody has a copy", () -> place(desk, 0, 15, 0, 0), PartSongDesk.NONE);
        desk.lend(1, 6);
        Check.due("not this voice", () -> place(desk, 0, 13, 0, 0), PartSongDesk.NONE);
        Check.due("not this piece", () -> place(desk, 1, 15, 0, 0), PartSongDesk.NONE);
        Check.due("not this bar", () -> place(desk, 0, 2, 0, 3), PartSongDesk.NONE);
        Check.due("the first request was done", () -> desk.done(0), 0);
        Check.due("the last bar", () -> place(desk, 0, 2, 2, 2), 10);
        Check.due("the singer learned it", () -> desk.learned(6, 0, 1, 2), 1);
        desk.pencil(1, 5, PartSongDesk.TO_TICKS, 4);
        Check.due("a copy that is wrong", () -> place(desk, 0, 2, 0, 0), PartSongDesk.NONE);
        desk.lend(2, 7);
        Check.due("only the one who has it right, behind the request that waited", () -> place(desk, 0, 6, 0, 2), 11);
        Check.due("the request that waited", () -> desk.done(1), 1);
        Check.due("learned", () -> desk.learned(7, 0, 2, 2), 1);
        Check.due("not learned by the other one", () -> desk.learned(6, 0, 1, 1), 0);
    }

    private static void risingNumbers() {
        PartSongDesk desk = desk();
        desk.ask(0, 2, 0, 0);
        desk.ask(0, 1, 0, 0);
        desk.ask(0, 15, 0, 0);
        desk.ask(0, 4, 0, 9);
        desk.ask(0, 4, 0, 0);
        for (int copy = 0; copy < 3; copy++) {
            desk.lend(copy, copy);
        }
        Check.due("plan", () -> desk.plan(), 4);
        int[] want = {0, 1, 10, PartSongDesk.NONE, 2};
        for (int i = 0; i < want.length; i++) {
            int request = i;
            Check.due("done " + request, () -> desk.done(request), want[request]);
        }
        Check.due("plan again", () -> desk.plan(), 0);
        Check.due("done once", () -> desk.learned(1, 0, 1, 0), 2);
        Check.due("no request 5", () -> desk.done(5), Check.INDEX);
    }

    private static void learned() {
        PartSongDesk desk = lent();
        place(desk, 0, 2, 0, 1);
        Check.due("learned", () -> desk.learned(1, 0, 1, 0), 1);
        Check.due("learned", () -> desk.learned(1, 0, 1, 1), 1);
        Check.due("not learned", () -> desk.learned(1, 0, 1, 2), 0);
        Check.due("not by another one", () -> desk.learned(2, 0, 1, 0), 0);
        Check.due("not of another voice", () -> desk.learned(1, 0, 2, 0), 0);
        Check.due("not of another piece", () -> desk.learned(1, 1, 1, 0), 0);
        place(desk, 0, 2, 1, 2);
        Check.due("once more", () -> desk.learned(1, 0, 1, 1), 2);
        Check.due("once", () -> desk.learned(1, 0, 1, 2), 1);
        desk.pencil(1, 5, PartSongDesk.TO_PLACE, 4);
        Check.due("it stays when the copy changes", () -> desk.learned(1, 0, 1, 1), 2);
        place(desk, 0, 2, 0, 2);
        Check.due("one that is alike", () -> desk.learned(1, 0, 1, 0), 2);
        Check.due("one that is not alike", () -> desk.learned(1, 0, 1, 1), 1);
        desk.back(1);
        desk.lend(1, 9);
        place(desk, 0, 2, 0, 2);
        Check.due("another singer learns for himself", () -> desk.learned(9, 0, 1, 1), 1);
        Check.due("and not for the one before", () -> desk.learned(1, 0, 1, 2), 2);
    }

    private static void learnedArguments() {
        PartSongDesk desk = new PartSongDesk();
        for (int bad : new int[] {-1, 12, Integer.MAX_VALUE, Integer.MIN_VALUE}) {
            Check.due("learned by " + bad, () -> desk.learned(bad, 0, 0, 0), Check.INDEX);
            Check.due("misled is " + bad, () -> desk.misled(bad, 0, 0), Check.INDEX);
        }
        for (int bad : new int[] {-1, 3, Integer.MAX_VALUE, Integer.MIN_VALUE}) {
            Check.due("learned of a piece " + bad, () -> desk.learned(0, bad, 0, 0), Check.INDEX);
            Check.due("misled of a piece " + bad, () -> desk.misled(0, bad, 0), Check.INDEX);
        }
        for (int bad : new int[] {-1, 4, Integer.MAX_VALUE, Integer.MIN_VALUE}) {
            Check.due("learned of a voice " + bad, () -> desk.learned(0, 0, bad, 0), Check.INDEX);
            Check.due("misled of a voice " + bad, () -> desk.misled(0, 0, bad), Check.INDEX);
        }
        for (int bad : new int[] {-1, 40, Integer.MAX_VALUE, Integer.MIN_VALUE}) {
            Check.due("learned of a bar " + bad, () -> desk.learned(0, 0, 0, bad), Check.INDEX);
        }
        Check.due("learned of the last of all", () -> desk.learned(11, 2, 3, 39), 0);
        Check.due("misled of the last of all", () -> desk.misled(11, 2, 3), 0);
    }

    private static void misled() {
        PartSongDesk desk = lent();
        desk.pencil(1, 3, PartSongDesk.TO_PLACE, 4);
        place(desk, 0, 2, 0, 1);
        Check.due("one otherwise than the library", () -> desk.misled(1, 0, 1), 1);
        Check.due("another voice", () -> desk.misled(1, 0, 0), 0);
        Check.due("another singer", () -> desk.misled(0, 0, 1), 0);
        desk.pencil(1, 5, PartSongDesk.TO_SIGN, 3);
        desk.pencil(1, 7, PartSongDesk.TO_REST, 1);
        Check.due("what the copy has now does not count", () -> desk.misled(1, 0, 1), 1);
        place(desk, 0, 2, 0, 2);
        Check.due("all that is alike is not counted", () -> desk.misled(1, 0, 1), 2);
        desk.back(1);
        Check.due("the library has it so", () -> desk.misled(1, 0, 1), 0);
        desk.lend(1, 1);
        desk.pencil(1, 5, PartSongDesk.TO_TICKS, 1);
        desk.back(1);
        Check.due("the library's music is SHORT", () -> desk.bars(0, 1), PartSongDesk.NONE);
        Check.due("all that were learned", () -> desk.misled(1, 0, 1), 3);
        Check.due("none were learned", () -> desk.misled(2, 0, 1), 0);
        desk.lend(1, 1);
        desk.pencil(1, 5, PartSongDesk.TO_TICKS, 2);
        desk.pencil(1, 5, PartSongDesk.TO_PLACE, 6);
        desk.back(1);
        Check.due("right again, but for one", () -> desk.misled(1, 0, 1), 1);
        Check.due("how often stays", () -> desk.learned(1, 0, 1, 0), 2);
    }
}
