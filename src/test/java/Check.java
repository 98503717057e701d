import java.util.function.Supplier;

/** What the tests share: they write texts, compare answers, and count what is wrong. */
final class Check {
    static final String INDEX = "IndexOutOfBoundsException";
    static final String ARGUMENT = "IllegalArgumentException";
    static final String STATE = "IllegalStateException";

    private static int calls = 0;
    private static int wrong = 0;
    private static int sentences = 0;
    /** The sentence of the document that is being tested, or none. */
    private static String words = "";

    private Check() {
    }

    /** The call's answer as a text, or the simple name of what it throws. */
    static String answer(Supplier<Object> call) {
        try {
            return String.valueOf(call.get());
        } catch (RuntimeException e) {
            return e.getClass().getSimpleName();
        }
    }

    static void due(String what, Supplier<Object> call, Object want) {
        calls++;
        String got = answer(call);
        if (!got.equals(String.valueOf(want))) {
            wrong++;
            System.out.println((words.isEmpty() ? "" : "\"" + words + "\": ") + what + " answered " + got + ", due is " + want);
        }
    }

    /** One sentence of the document, in its own words, and the calls that show whether it holds. */
    static void sentence(String itsWords, Runnable test) {
        int before = calls;
        words = itsWords;
        sentences++;
        test.run();
        if (calls == before) {
            wrong++;
            System.out.println("\"" + words + "\" is not tested");
        }
        words = "";
    }

    static void write(PartSongDesk desk, int piece, int voice, String text) {
        for (int i = 0; i < text.length(); i++) {
            desk.write(piece, voice, text.charAt(i));
        }
    }

    /** A new object with one text, that of the voice 0 of the piece 0. */
    static PartSongDesk with(String text) {
        PartSongDesk desk = new PartSongDesk();
        write(desk, 0, 0, text);
        return desk;
    }

    /** A text's error and where it is. */
    static void error(String text, int kind, int at) {
        PartSongDesk desk = with(text);
        due("error of '" + text + "'", () -> desk.error(0, 0), kind);
        due("errorAt of '" + text + "'", () -> desk.errorAt(0, 0), at);
        due("bars of '" + text + "'", () -> desk.bars(0, 0) == PartSongDesk.NONE, kind != PartSongDesk.RIGHT);
    }

    static void right(String text, int bars) {
        PartSongDesk desk = with(text);
        due("error of '" + text + "'", () -> desk.error(0, 0), PartSongDesk.RIGHT);
        due("errorAt of '" + text + "'", () -> desk.errorAt(0, 0), PartSongDesk.NONE);
        due("bars of '" + text + "'", () -> desk.bars(0, 0), bars);
    }

    /** All pitches of a text, bars parted by |, a rest as r. */
    static void sung(String text, String want) {
        PartSongDesk desk = with(text);
        due("pitches of '" + text + "'", () -> pitches(desk, 0, 0), want);
    }

    static String pitches(PartSongDesk desk, int piece, int voice) {
        StringBuilder all = new StringBuilder();
        for (int bar = 0; bar < desk.bars(piece, voice); bar++) {
            all.append(bar > 0 ? " | " : "");
            int ticks = Math.round(desk.seconds(piece, voice, 60) * 4 / desk.bars(piece, voice));
            for (int tick = 0; tick < ticks; tick++) {
                int pitch = desk.pitch(piece, voice, bar, tick);
                all.append(tick > 0 ? " " : "").append(pitch == PartSongDesk.SILENCE ? "r" : String.valueOf(pitch));
            }
        }
        return all.toString();
    }

    static void end(String name) {
        System.out.println(name + ": " + (sentences > 0 ? sentences + " sentences, " : "") + calls + " answers, " + wrong + " wrong");
        if (wrong != 0 || calls == 0) {
            System.exit(1);
        }
    }
}
