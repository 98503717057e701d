import java.util.function.Consumer;
import java.util.function.Function;
import java.util.function.Supplier;

/**
 * "A call that throws changes nothing. Where two exceptions apply, the one that is listed first is thrown."
 * Each refused call is made on one of two objects that are alike, and all that can be seen of them must be alike behind it.
 */
public final class RefusedTest {
    private static final int LEAST = Integer.MIN_VALUE;
    private static final int GREATEST = Integer.MAX_VALUE;
    private static final int[] NO_PIECES = {-1, 3, LEAST, GREATEST};
    private static final int[] NO_VOICES = {-1, 4, LEAST, GREATEST};
    private static final int[] NO_SINGERS = {-1, 12, LEAST, GREATEST};

    public static void main(String[] args) {
        texts();
        asking();
        bars();
        printing();
        lending();
        pencilling();
        copies();
        differing();
        clashes();
        rooms();
        requests();
        singers();
        concerts();
        full();
        Check.end("RefusedTest");
    }

    // ---- objects to begin with

    /** A full text, one that is right, one of each kind of wrong ones, and one that is printed. */
    private static PartSongDesk written() {
        PartSongDesk desk = new PartSongDesk();
        Check.write(desk, 0, 0, "@G#0M2/4 0h|" + " ".repeat(148));
        Check.write(desk, 0, 1, "@G#0M2/4 0h|1q1q|");
        Check.write(desk, 0, 2, "@G#0M2/4 0h|1q|");
        Check.write(desk, 0, 3, "@G#0x");
        Check.write(desk, 1, 3, "@G#0M2/4[");
        Check.write(desk, 2, 3, "@F#0M2/4 0h|");
        desk.print(2, 3);
        return desk;
    }

    /** Four voices with copies lent to the singers 0 to 3, corrections, requests and a day; the copy 4 lies there, 5 is of another piece. */
    private static PartSongDesk busy() {
        PartSongDesk desk = new PartSongDesk();
        for (int voice = 0; voice < 4; voice++) {
            Check.write(desk, 0, voice, "@G#0M1/8 0e~|0e|");
            desk.print(0, voice);
            desk.lend(voice, voice);
        }
        desk.print(0, 1);
        Check.write(desk, 1, 0, "@G#0M1/8 re|");
        desk.print(1, 0);
        desk.lend(5, 0);
        desk.ask(0, 15, 0, 1);
        desk.ask(0, 3, 1, 1);
        desk.plan();
        desk.day();
        desk.ask(0, 1, 0, 5);
        desk.room(2, 7);
        desk.pencil(0, 3, PartSongDesk.TO_PLACE, 1);
        desk.pencil(0, 5, PartSongDesk.TO_PLACE, 1);
        desk.pencil(2, 5, PartSongDesk.TO_PLACE, 4);
        desk.back(0);
        desk.lend(0, 0);
        desk.pencil(3, 3, PartSongDesk.TO_SIGN, 1);
        // so that the copy 4 lies there without what the library has
        desk.pencil(1, 3, PartSongDesk.TO_PLACE, 2);
        desk.pencil(1, 5, PartSongDesk.TO_PLACE, 2);
        desk.back(1);
        desk.lend(1, 1);
        return desk;
    }

    /** A piece that is READY, behind one concert. */
    private static PartSongDesk ready() {
        PartSongDesk desk = new PartSongDesk();
        for (int voice = 0; voice < 4; voice++) {
            Check.write(desk, 0, voice, "@G#0M1/8 0e|");
            desk.print(0, voice);
            desk.lend(voice, voice);
        }
        desk.ask(0, 15, 0, 0);
        desk.plan();
        desk.concert(0);
        for (int voice = 0; voice < 4; voice++) {
            desk.lend(voice, voice);
        }
        return desk;
    }

    /** Forty copies of two parts; 0 to 11 are lent. */
    private static PartSongDesk fortyCopies() {
        PartSongDesk desk = new PartSongDesk();
        for (int voice = 0; voice < 2; voice++) {
            Check.write(desk, 0, voice, "@G#0M1/8 0e|");
        }
        for (int copy = 0; copy < 40; copy++) {
            desk.print(0, copy % 2);
        }
        for (int singer = 0; singer < 12; singer++) {
            desk.lend(singer, singer);
        }
        return desk;
    }

    /** Two hundred corrections in two copies. */
    private static PartSongDesk manyCorrections() {
        PartSongDesk desk = new PartSongDesk();
        Check.write(desk, 0, 0, "@G#0M1/8 0e|");
        for (int copy = 0; copy < 3; copy++) {
            desk.print(0, 0);
            desk.lend(copy, copy);
        }
        for (int number = 0; number < 200; number++) {
            desk.pencil(number % 2, 3, PartSongDesk.TO_PLACE, number % 19);
        }
        return desk;
    }

    /** Forty requests, four of them done, and another day. */
    private static PartSongDesk fortyRequests() {
        PartSongDesk desk = new PartSongDesk();
        Check.write(desk, 0, 0, "@G#0M1/8 0e|1e|");
        desk.print(0, 0);
        desk.lend(0, 0);
        for (int request = 0; request < 40; request++) {
            desk.ask(0, 1, request % 2, 1);
        }
        desk.plan();
        desk.day();
        return desk;
    }

    // ---- what can be seen of an object

    private static String look(PartSongDesk desk) {
        StringBuilder seen = new StringBuilder();
        lookAtParts(desk, seen);
        lookAtCopies(desk, seen);
        lookAtSingers(desk, seen);
        lookAtWhatChanges(desk, seen);
        return seen.toString();
    }

    private static void see(StringBuilder seen, String name, Supplier<Object> call) {
        seen.append(name).append(' ').append(Check.answer(call)).append('\n');
    }

    private static void lookAtParts(PartSongDesk desk, StringBuilder seen) {
        for (int part = 0; part < 12; part++) {
            int p = part / 4;
            int v = part % 4;
            if (p == 0 || v == 3 || part == 4) {
                see(seen, "error", () -> desk.error(p, v));
                see(seen, "errorAt", () -> desk.errorAt(p, v));
                see(seen, "tokens", () -> desk.tokens(p, v));
                see(seen, "bars", () -> desk.bars(p, v));
                see(seen, "pitch", () -> desk.pitch(p, v, 0, 1));
                see(seen, "seconds", () -> desk.seconds(p, v, 60));
            }
        }
        for (int token = 0; token < 6; token++) {
            int t = token;
            see(seen, "token", () -> desk.token(0, 1, t));
        }
        for (int kind = 0; kind < 4; kind++) {
            int k = kind;
            see(seen, "clashesOf", () -> desk.clashesOf(0, k));
        }
        see(seen, "clashes", () -> desk.clashes(0, 1));
    }

    private static void lookAtCopies(PartSongDesk desk, StringBuilder seen) {
        for (int copy : new int[] {0, 1, 2, 3, 4, 5, 6, 11, 12, 39, 40}) {
            see(seen, "holder", () -> desk.holder(copy));
            see(seen, "copyError", () -> desk.copyError(copy));
        }
        for (int copy = 0; copy < 5; copy++) {
            int c = copy;
            see(seen, "copyPitch", () -> desk.copyPitch(c, 0, 0));
            see(seen, "copyPitch", () -> desk.copyPitch(c, 1, 1));
            see(seen, "copyPitchAnew", () -> desk.copyPitchAnew(c, 1, 1));
            see(seen, "begins", () -> desk.begins(c, 1, 0));
        }
        see(seen, "differ", () -> desk.differ(0, 1));
        see(seen, "differ", () -> desk.differ(1, 4));
    }

    private static void lookAtSingers(PartSongDesk desk, StringBuilder seen) {
        for (int singer = 0; singer < 4; singer++) {
            int s = singer;
            see(seen, "learned", () -> desk.learned(s, 0, s, 0));
            see(seen, "learned", () -> desk.learned(s, 0, s, 1));
            see(seen, "misled", () -> desk.misled(s, 0, s));
        }
        for (int piece = 0; piece < 3; piece++) {
            int p = piece;
            see(seen, "judge", () -> desk.judge(p));
        }
        for (int request : new int[] {0, 1, 2, 3, 4, 39, 40}) {
            see(seen, "done", () -> desk.done(request));
        }
        see(seen, "concerts", () -> desk.concerts());
    }

    /** Calls that change something themselves, and tell by that what was there. */
    private static void lookAtWhatChanges(PartSongDesk desk, StringBuilder seen) {
        see(seen, "plan", () -> desk.plan());
        for (int room = 0; room < 4; room++) {
            int r = room;
            see(seen, "room", () -> desk.room(r, 4));
        }
        see(seen, "ask", () -> desk.ask(0, 1, 0, 0));
        see(seen, "plan", () -> desk.plan());
        see(seen, "done", () -> desk.done(3));
        see(seen, "concert", () -> desk.concert(0));
        for (int copy = 0; copy < 6; copy++) {
            int c = copy;
            see(seen, "pencil", () -> desk.pencil(c, 3, PartSongDesk.TO_PLACE, 2));
            see(seen, "back", () -> desk.back(c));
            see(seen, "lend", () -> desk.lend(c, c));
        }
        see(seen, "print", () -> desk.print(0, 0));
        see(seen, "day", () -> desk.day());
        for (int part = 0; part < 12; part++) {
            int p = part;
            see(seen, "write", () -> desk.write(p / 4, p % 4, ' '));
            see(seen, "strike", () -> desk.strike(p / 4, p % 4, 160));
        }
    }

    /** Makes a call that must be refused, twice, and holds the object against one on which it was not made. */
    private static void refused(String what, Supplier<PartSongDesk> made, String exception, Function<PartSongDesk, Object> call) {
        PartSongDesk desk = made.get();
        Check.due(what, () -> call.apply(desk), exception);
        Check.due(what + ", once more", () -> call.apply(desk), exception);
        String seen = look(desk);
        String want = look(made.get());
        Check.due("what is seen behind " + what, () -> seen, want);
    }

    private static void each(int[] values, Consumer<Integer> test) {
        for (int value : values) {
            test.accept(value);
        }
    }

    // ---- the calls

    private static void texts() {
        each(NO_PIECES, bad -> {
            refused("write to no piece", RefusedTest::written, Check.INDEX, d -> d.write(bad, 0, ' '));
            refused("write no letter to no piece", RefusedTest::written, Check.INDEX, d -> d.write(bad, 0, (char) 127));
            refused("strike at no piece", RefusedTest::written, Check.INDEX, d -> d.strike(bad, 0, 1));
            refused("strike 0 at no piece", RefusedTest::written, Check.INDEX, d -> d.strike(bad, 0, 0));
        });
        each(NO_VOICES, bad -> {
            refused("write to no voice", RefusedTest::written, Check.INDEX, d -> d.write(0, bad, ' '));
            refused("write no letter to no voice", RefusedTest::written, Check.INDEX, d -> d.write(2, bad, (char) 31));
            refused("strike at no voice", RefusedTest::written, Check.INDEX, d -> d.strike(1, bad, 1));
            refused("strike 161 at no voice", RefusedTest::written, Check.INDEX, d -> d.strike(2, bad, 161));
        });
        each(new int[] {0, 31, 127, 65535}, bad -> {
            refused("write no letter", RefusedTest::written, Check.ARGUMENT, d -> d.write(0, 1, (char) (int) bad));
            refused("write no letter into a full text", RefusedTest::written, Check.ARGUMENT, d -> d.write(0, 0, (char) (int) bad));
            refused("write no letter into a printed part", RefusedTest::written, Check.ARGUMENT, d -> d.write(2, 3, (char) (int) bad));
        });
        each(new int[] {0, -1, 161, LEAST, GREATEST}, bad -> {
            refused("strike " + bad, RefusedTest::written, Check.ARGUMENT, d -> d.strike(0, 0, bad));
            refused("strike " + bad + " of an empty text", RefusedTest::written, Check.ARGUMENT, d -> d.strike(1, 0, bad));
            refused("strike " + bad + " of a printed part", RefusedTest::written, Check.ARGUMENT, d -> d.strike(2, 3, bad));
        });
        refused("write into a full text", RefusedTest::written, Check.STATE, d -> d.write(0, 0, ' '));
        refused("write into a full text", RefusedTest::written, Check.STATE, d -> d.write(0, 0, '|'));
        refused("write into a printed part", RefusedTest::written, Check.STATE, d -> d.write(2, 3, ' '));
        refused("write into a part that is lent", RefusedTest::busy, Check.STATE, d -> d.write(0, 0, '|'));
        refused("strike a printed part", RefusedTest::written, Check.STATE, d -> d.strike(2, 3, 1));
        refused("strike all of a part that is lent", RefusedTest::busy, Check.STATE, d -> d.strike(0, 3, 160));
    }

    private static void asking() {
        each(NO_PIECES, bad -> {
            refused("error of no piece", RefusedTest::written, Check.INDEX, d -> d.error(bad, 0));
            refused("errorAt of no piece", RefusedTest::written, Check.INDEX, d -> d.errorAt(bad, 0));
            refused("tokens of no piece", RefusedTest::written, Check.INDEX, d -> d.tokens(bad, 0));
            refused("token of no piece", RefusedTest::written, Check.INDEX, d -> d.token(bad, 0, 0));
        });
        each(NO_VOICES, bad -> {
            refused("error of no voice", RefusedTest::written, Check.INDEX, d -> d.error(0, bad));
            refused("errorAt of no voice", RefusedTest::written, Check.INDEX, d -> d.errorAt(1, bad));
            refused("tokens of no voice", RefusedTest::written, Check.INDEX, d -> d.tokens(2, bad));
            refused("token of no voice", RefusedTest::written, Check.INDEX, d -> d.token(0, bad, 0));
        });
        each(new int[] {-1, 8, 60, LEAST, GREATEST}, bad -> refused("no token " + bad, RefusedTest::written, Check.INDEX, d -> d.token(0, 1, bad)));
        refused("the token behind an error", RefusedTest::written, Check.INDEX, d -> d.token(0, 3, 2));
        refused("a token of an empty text", RefusedTest::written, Check.INDEX, d -> d.token(1, 1, 0));
    }

    private static void bars() {
        each(NO_PIECES, bad -> {
            refused("bars of no piece", RefusedTest::written, Check.INDEX, d -> d.bars(bad, 0));
            refused("pitch of no piece", RefusedTest::written, Check.INDEX, d -> d.pitch(bad, 0, 0, 0));
            refused("seconds of no piece", RefusedTest::written, Check.INDEX, d -> d.seconds(bad, 0, 60));
            refused("seconds of no piece at no tempo", RefusedTest::written, Check.INDEX, d -> d.seconds(bad, 0, 19));
        });
        each(NO_VOICES, bad -> {
            refused("bars of no voice", RefusedTest::written, Check.INDEX, d -> d.bars(0, bad));
            refused("pitch of no voice", RefusedTest::written, Check.INDEX, d -> d.pitch(0, bad, 0, 0));
            refused("seconds of no voice", RefusedTest::written, Check.INDEX, d -> d.seconds(0, bad, 60));
            refused("seconds of no voice at no tempo", RefusedTest::written, Check.INDEX, d -> d.seconds(0, bad, 301));
        });
        each(new int[] {-1, 2, 40, LEAST, GREATEST}, bad -> refused("pitch of no bar", RefusedTest::written, Check.INDEX, d -> d.pitch(0, 1, bad, 0)));
        each(new int[] {-1, 8, 16, LEAST, GREATEST}, bad -> refused("pitch of no tick", RefusedTest::written, Check.INDEX, d -> d.pitch(0, 1, 0, bad)));
        refused("pitch of a part that is not right", RefusedTest::written, Check.INDEX, d -> d.pitch(0, 2, 0, 0));
        each(new int[] {19, 301, 0, -1, LEAST, GREATEST}, bad -> {
            refused("seconds at no tempo", RefusedTest::written, Check.ARGUMENT, d -> d.seconds(0, 0, bad));
            refused("seconds of what is not right at no tempo", RefusedTest::written, Check.ARGUMENT, d -> d.seconds(0, 2, bad));
        });
    }

    private static void printing() {
        each(NO_PIECES, bad -> {
            refused("print no piece", RefusedTest::written, Check.INDEX, d -> d.print(bad, 0));
            refused("print the copy 41 of no piece", RefusedTest::fortyCopies, Check.INDEX, d -> d.print(bad, 0));
        });
        each(NO_VOICES, bad -> {
            refused("print no voice", RefusedTest::written, Check.INDEX, d -> d.print(0, bad));
            refused("print the copy 41 of no voice", RefusedTest::fortyCopies, Check.INDEX, d -> d.print(0, bad));
        });
        refused("print what is SHORT", RefusedTest::written, Check.STATE, d -> d.print(0, 2));
        refused("print what has no token", RefusedTest::written, Check.STATE, d -> d.print(0, 3));
        refused("print what is not closed", RefusedTest::written, Check.STATE, d -> d.print(1, 3));
        refused("print an empty text", RefusedTest::written, Check.STATE, d -> d.print(1, 0));
        refused("print the copy 41", RefusedTest::fortyCopies, Check.STATE, d -> d.print(0, 0));
        refused("print the copy 41 of an empty text", RefusedTest::fortyCopies, Check.STATE, d -> d.print(2, 0));
    }

    private static void lending() {
        each(new int[] {-1, 6, 40, LEAST, GREATEST}, bad -> {
            refused("lend no copy", RefusedTest::busy, Check.INDEX, d -> d.lend(bad, 5));
            refused("back of no copy", RefusedTest::busy, Check.INDEX, d -> d.back(bad));
        });
        refused("lend the copy 40", RefusedTest::fortyCopies, Check.INDEX, d -> d.lend(40, 0));
        each(NO_SINGERS, bad -> {
            refused("lend to no singer", RefusedTest::busy, Check.INDEX, d -> d.lend(4, bad));
            refused("lend what is lent to no singer", RefusedTest::busy, Check.INDEX, d -> d.lend(0, bad));
        });
        refused("lend what is lent", RefusedTest::busy, Check.STATE, d -> d.lend(0, 5));
        refused("lend what is lent and pencilled into", RefusedTest::busy, Check.STATE, d -> d.lend(3, 5));
        refused("lend what is lent to the singer who has it", RefusedTest::busy, Check.STATE, d -> d.lend(0, 0));
        refused("lend to a singer who has a copy of the part", RefusedTest::busy, Check.STATE, d -> d.lend(4, 1));
        refused("lend to a singer who has a copy of the piece", RefusedTest::busy, Check.STATE, d -> d.lend(4, 3));
        refused("back of what lies there", RefusedTest::busy, Check.STATE, d -> d.back(4));
        refused("back of what was never lent", RefusedTest::written, Check.STATE, d -> d.back(0));
    }

    private static void pencilling() {
        each(new int[] {-1, 6, 40, LEAST, GREATEST}, bad -> {
            refused("pencil into no copy", RefusedTest::busy, Check.INDEX, d -> d.pencil(bad, 3, PartSongDesk.TO_PLACE, 0));
            refused("pencil no kind into no copy", RefusedTest::busy, Check.INDEX, d -> d.pencil(bad, 3, 5, 0));
        });
        each(new int[] {-1, 7, 60, LEAST, GREATEST}, bad -> {
            refused("pencil at no token", RefusedTest::busy, Check.INDEX, d -> d.pencil(0, bad, PartSongDesk.TO_PLACE, 0));
            refused("pencil no value at no token", RefusedTest::busy, Check.INDEX, d -> d.pencil(0, bad, PartSongDesk.TO_PLACE, 20));
            refused("pencil at no token of what is not lent", RefusedTest::busy, Check.INDEX, d -> d.pencil(4, bad, PartSongDesk.TO_PLACE, 0));
        });
        each(new int[] {-1, 5, LEAST, GREATEST}, bad -> {
            refused("pencil no kind", RefusedTest::busy, Check.ARGUMENT, d -> d.pencil(0, 3, bad, 0));
            refused("pencil no kind into what is not lent", RefusedTest::busy, Check.ARGUMENT, d -> d.pencil(4, 3, bad, PartSongDesk.AS_PRINTED));
            refused("pencil no kind as number 200", RefusedTest::manyCorrections, Check.ARGUMENT, d -> d.pencil(2, 3, bad, 0));
        });
        int[][] bad = {{PartSongDesk.TO_CLEF, -1}, {PartSongDesk.TO_CLEF, 3}, {PartSongDesk.TO_PLACE, -10}, {PartSongDesk.TO_PLACE, 20},
            {PartSongDesk.TO_SIGN, -1}, {PartSongDesk.TO_SIGN, 4}, {PartSongDesk.TO_TICKS, 0}, {PartSongDesk.TO_TICKS, 5}, {PartSongDesk.TO_TICKS, 25},
            {PartSongDesk.TO_REST, -1}, {PartSongDesk.TO_REST, 2}, {PartSongDesk.TO_PLACE, 99}, {PartSongDesk.TO_PLACE, 101}};
        for (int[] one : bad) {
            refused("pencil no value", RefusedTest::busy, Check.ARGUMENT, d -> d.pencil(0, one[0] == PartSongDesk.TO_CLEF ? 0 : 3, one[0], one[1]));
            refused("pencil no value at another token", RefusedTest::busy, Check.ARGUMENT, d -> d.pencil(0, 4, one[0], one[1]));
            refused("pencil no value into what is not lent", RefusedTest::busy, Check.ARGUMENT, d -> d.pencil(4, 3, one[0], one[1]));
            refused("pencil no value as number 200", RefusedTest::manyCorrections, Check.ARGUMENT, d -> d.pencil(0, 3, one[0], one[1]));
        }
        for (int kind = 0; kind < 5; kind++) {
            int k = kind;
            refused("pencil at a BAR", RefusedTest::busy, Check.STATE, d -> d.pencil(0, 4, k, PartSongDesk.AS_PRINTED));
            refused("pencil at the METER", RefusedTest::busy, Check.STATE, d -> d.pencil(0, 2, k, k == 3 ? 1 : 0));
            refused("pencil at a CLEF or NOTE", RefusedTest::busy, Check.STATE, d -> d.pencil(0, k == 0 ? 3 : 0, k, k == 3 ? 1 : 0));
            refused("pencil into what is not lent", RefusedTest::busy, Check.STATE, d -> d.pencil(4, k == 0 ? 0 : 3, k, k == 3 ? 1 : 0));
            refused("pencil number 200", RefusedTest::manyCorrections, Check.STATE, d -> d.pencil(0, k == 0 ? 0 : 3, k, PartSongDesk.AS_PRINTED));
            refused("pencil number 200 into another copy", RefusedTest::manyCorrections, Check.STATE, d -> d.pencil(2, k == 0 ? 0 : 3, k, k == 3 ? 1 : 0));
        }
    }

    private static void copies() {
        each(new int[] {-1, 6, 40, LEAST, GREATEST}, bad -> {
            refused("holder of no copy", RefusedTest::busy, Check.INDEX, d -> d.holder(bad));
            refused("copyError of no copy", RefusedTest::busy, Check.INDEX, d -> d.copyError(bad));
            refused("copyPitch of no copy", RefusedTest::busy, Check.INDEX, d -> d.copyPitch(bad, 0, 0));
            refused("copyPitchAnew of no copy", RefusedTest::busy, Check.INDEX, d -> d.copyPitchAnew(bad, 0, 0));
            refused("begins of no copy", RefusedTest::busy, Check.INDEX, d -> d.begins(bad, 0, 0));
        });
        each(new int[] {-1, 2, 40, LEAST, GREATEST}, bad -> {
            refused("copyPitch of no bar", RefusedTest::busy, Check.INDEX, d -> d.copyPitch(0, bad, 0));
            refused("copyPitchAnew of no bar", RefusedTest::busy, Check.INDEX, d -> d.copyPitchAnew(0, bad, 0));
            refused("begins of no bar", RefusedTest::busy, Check.INDEX, d -> d.begins(0, bad, 0));
            refused("copyPitch of no tick", RefusedTest::busy, Check.INDEX, d -> d.copyPitch(0, 1, bad));
            refused("copyPitchAnew of no tick", RefusedTest::busy, Check.INDEX, d -> d.copyPitchAnew(0, 1, bad));
            refused("begins of no tick", RefusedTest::busy, Check.INDEX, d -> d.begins(0, 1, bad));
        });
        Check.due("the copy 2 has a tie that fails", () -> busy().copyError(2), PartSongDesk.TIE);
        refused("copyPitch of what is not right", RefusedTest::busy, Check.INDEX, d -> d.copyPitch(2, 0, 0));
        refused("copyPitchAnew of what is not right", RefusedTest::busy, Check.INDEX, d -> d.copyPitchAnew(2, 0, 0));
        refused("begins of what is not right", RefusedTest::busy, Check.INDEX, d -> d.begins(2, 0, 0));
    }

    private static void differing() {
        each(new int[] {-1, 6, 40, LEAST, GREATEST}, bad -> {
            refused("differ with no copy", RefusedTest::busy, Check.INDEX, d -> d.differ(0, bad));
            refused("differ of no copy", RefusedTest::busy, Check.INDEX, d -> d.differ(bad, 0));
            refused("differ of what is not right and no copy", RefusedTest::busy, Check.INDEX, d -> d.differ(2, bad));
            refused("differ of no copies", RefusedTest::busy, Check.INDEX, d -> d.differ(bad, bad));
        });
        refused("differ of unlike voices", RefusedTest::busy, Check.ARGUMENT, d -> d.differ(0, 1));
        refused("differ of unlike pieces", RefusedTest::busy, Check.ARGUMENT, d -> d.differ(0, 5));
        refused("differ of unlike voices, one not right", RefusedTest::busy, Check.ARGUMENT, d -> d.differ(2, 1));
        refused("differ of unlike voices, the other one not right", RefusedTest::busy, Check.ARGUMENT, d -> d.differ(1, 2));
        refused("differ of what is not right", RefusedTest::busy, Check.STATE, d -> d.differ(2, 2));
    }

    private static void clashes() {
        each(NO_PIECES, bad -> {
            refused("clashes of no piece", RefusedTest::busy, Check.INDEX, d -> d.clashes(bad, 0));
            refused("clashesOf no piece", RefusedTest::busy, Check.INDEX, d -> d.clashesOf(bad, 0));
            refused("clashesOf no piece, of no kind", RefusedTest::busy, Check.INDEX, d -> d.clashesOf(bad, 4));
        });
        each(new int[] {-1, 40, LEAST, GREATEST}, bad -> refused("clashes of no bar", RefusedTest::busy, Check.INDEX, d -> d.clashes(0, bad)));
        each(new int[] {-1, 4, LEAST, GREATEST}, bad -> refused("clashesOf no kind", RefusedTest::busy, Check.ARGUMENT, d -> d.clashesOf(0, bad)));
    }

    private static void rooms() {
        each(new int[] {-1, 4, LEAST, GREATEST}, bad -> {
            refused("no room", RefusedTest::busy, Check.INDEX, d -> d.room(bad, 4));
            refused("no room, no places", RefusedTest::busy, Check.INDEX, d -> d.room(bad, 13));
        });
        each(new int[] {-1, 13, LEAST, GREATEST}, bad -> {
            refused("so many places", RefusedTest::busy, Check.ARGUMENT, d -> d.room(0, bad));
            refused("so many places", RefusedTest::busy, Check.ARGUMENT, d -> d.room(2, bad));
        });
    }

    private static void requests() {
        each(NO_PIECES, bad -> {
            refused("ask for no piece", RefusedTest::busy, Check.INDEX, d -> d.ask(bad, 1, 0, 0));
            refused("ask for no piece and no voices", RefusedTest::busy, Check.INDEX, d -> d.ask(bad, 0, 0, 0));
            refused("ask for the 41st, of no piece", RefusedTest::fortyRequests, Check.INDEX, d -> d.ask(bad, 1, 0, 0));
        });
        each(new int[] {-1, 0, 16, LEAST, GREATEST}, bad -> {
            refused("ask for no voices", RefusedTest::busy, Check.ARGUMENT, d -> d.ask(0, bad, 0, 0));
            refused("ask for the 41st, of no voices", RefusedTest::fortyRequests, Check.ARGUMENT, d -> d.ask(0, bad, 0, 0));
        });
        each(new int[] {-1, 40, LEAST, GREATEST}, bad -> {
            refused("ask from no bar", RefusedTest::busy, Check.ARGUMENT, d -> d.ask(0, 1, bad, 39));
            refused("ask to no bar", RefusedTest::busy, Check.ARGUMENT, d -> d.ask(0, 1, 0, bad));
            refused("ask for the 41st, from no bar", RefusedTest::fortyRequests, Check.ARGUMENT, d -> d.ask(0, 1, bad, 39));
            refused("ask for the 41st, to no bar", RefusedTest::fortyRequests, Check.ARGUMENT, d -> d.ask(0, 1, 0, bad));
        });
        refused("ask from 1 to 0", RefusedTest::busy, Check.ARGUMENT, d -> d.ask(0, 1, 1, 0));
        refused("ask from 39 to 38", RefusedTest::busy, Check.ARGUMENT, d -> d.ask(0, 1, 39, 38));
        refused("ask for the 41st", RefusedTest::fortyRequests, Check.STATE, d -> d.ask(0, 1, 0, 0));
        each(new int[] {-1, 3, 40, LEAST, GREATEST}, bad -> refused("done of no request", RefusedTest::busy, Check.INDEX, d -> d.done(bad)));
        refused("done of the request 40", RefusedTest::fortyRequests, Check.INDEX, d -> d.done(40));
        refused("done of none", PartSongDesk::new, Check.INDEX, d -> d.done(0));
    }

    private static void singers() {
        each(NO_SINGERS, bad -> {
            refused("learned by no singer", RefusedTest::busy, Check.INDEX, d -> d.learned(bad, 0, 0, 0));
            refused("misled is no singer", RefusedTest::busy, Check.INDEX, d -> d.misled(bad, 0, 0));
        });
        each(NO_PIECES, bad -> {
            refused("learned of no piece", RefusedTest::busy, Check.INDEX, d -> d.learned(0, bad, 0, 0));
            refused("misled of no piece", RefusedTest::busy, Check.INDEX, d -> d.misled(0, bad, 0));
        });
        each(NO_VOICES, bad -> {
            refused("learned of no voice", RefusedTest::busy, Check.INDEX, d -> d.learned(0, 0, bad, 0));
            refused("misled of no voice", RefusedTest::busy, Check.INDEX, d -> d.misled(0, 0, bad));
        });
        each(new int[] {-1, 40, LEAST, GREATEST}, bad -> refused("learned of no bar", RefusedTest::busy, Check.INDEX, d -> d.learned(0, 0, 0, bad)));
    }

    private static void concerts() {
        each(NO_PIECES, bad -> {
            refused("judge no piece", RefusedTest::ready, Check.INDEX, d -> d.judge(bad));
            refused("a concert of no piece", RefusedTest::ready, Check.INDEX, d -> d.concert(bad));
        });
        refused("a concert of a piece without copies", RefusedTest::ready, Check.STATE, d -> d.concert(1));
        refused("a concert of a piece that is WRONG", RefusedTest::busy, Check.STATE, d -> d.concert(0));
        refused("a concert of a piece with one copy", RefusedTest::busy, Check.STATE, d -> d.concert(1));
        refused("a concert with unlike copies", RefusedTest::fortyCopies, Check.STATE, d -> d.concert(0));
        Check.due("the piece is READY", () -> ready().concert(0), 4);
    }

    /** The last calls that are not refused, beside the ones that are. */
    private static void full() {
        Check.due("write number 160", () -> {
            PartSongDesk desk = written();
            desk.strike(0, 0, 1);
            return desk.write(0, 0, ' ');
        }, 160);
        Check.due("pencil into the last copy", () -> {
            PartSongDesk desk = fortyCopies();
            desk.back(0);
            desk.lend(39, 0);
            return desk.pencil(39, 3, PartSongDesk.TO_PLACE, 1);
        }, 0);
        Check.due("what comes back of two hundred", () -> {
            PartSongDesk desk = manyCorrections();
            return desk.back(0) + desk.back(1) + desk.back(2);
        }, 200);
        Check.due("what is planned of forty", () -> {
            PartSongDesk desk = fortyRequests();
            return desk.plan() + 100 * desk.done(7);
        }, 4 + 100 * 130);
    }
}
