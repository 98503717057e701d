import java.util.Map;
import java.util.TreeMap;
import java.util.function.Supplier;

/** Holds long runs of calls against the model: all promises at once, in states that no test would think of. */
public final class ModelTest {
    private static final int RUNS = 4000;
    private static final int CALLS = 512;
    private static final int[] TEMPOS = {20, 60, 77, 120, 300, 19, 301};

    private PartSongDesk desk = new PartSongDesk();
    private Model model = new Model();
    private final StringBuilder log = new StringBuilder();
    private int calls;
    private int copies;
    private int requests;
    private long seed;
    private static int wrong = 0;
    private static final Map<String, Integer> seen = new TreeMap<>();

    private ModelTest(long seed) {
        this.seed = seed * 7919 + 17;
    }

    /** The same numbers in every run of the test. */
    private int below(int many) {
        seed = seed * 6364136223846793005L + 1442695040888963407L;
        return (int) ((seed >>> 33) % many);
    }

    private boolean once(int in) {
        return below(in) == 0;
    }

    private String call(String name, Supplier<Object> got, Supplier<Object> want, Object... args) {
        if (calls >= CALLS || wrong > 20) {
            return "";
        }
        calls++;
        StringBuilder row = new StringBuilder(name).append('(');
        for (int i = 0; i < args.length; i++) {
            row.append(i > 0 ? ", " : "").append(args[i]);
        }
        String a = Check.answer(got);
        String b = Check.answer(want);
        log.append(row).append(") ").append(a).append('\n');
        String kind = name + " " + (b.length() > 5 ? b : name.equals("error") || name.equals("copyError") || name.equals("judge") ? b : "answer");
        seen.merge(kind, 1, Integer::sum);
        if (!a.equals(b)) {
            wrong++;
            System.out.println(log + "   .. but due is " + b);
        }
        return b;
    }

    // ---- texts

    private void type(int piece, int voice, String text) {
        for (int i = 0; i < text.length(); i++) {
            char letter = text.charAt(i);
            call("write", () -> desk.write(piece, voice, letter), () -> model.write(piece, voice, letter), piece, voice, letter);
        }
    }

    private String note(int ticks) {
        String[] lengths = {"", "s", "e", "e.", "q", "", "q.", "", "h", "", "", "", "h.", "", "", "", "w"};
        String sign = once(5) ? String.valueOf("^_=".charAt(below(3))) : "";
        String place = once(30) ? "-" + below(12) : once(20) ? "0" + below(10) : once(20) ? String.valueOf(below(24)) : String.valueOf(below(7));
        return (once(8) ? "r" : sign + place) + lengths[ticks];
    }

    private String notes(int ticks) {
        StringBuilder s = new StringBuilder();
        int[] lengths = {16, 12, 8, 6, 4, 3, 2, 1};
        int left = ticks;
        while (left > 0) {
            int length = lengths[below(lengths.length)];
            if (length > left && !once(40) || length < 3 && once(2)) {
                continue;
            }
            String note = note(length);
            s.append(note);
            if (once(6) && note.charAt(0) != 'r') {
                s.append('~');
                String again = once(3) ? note : note.replaceAll("[\\^_=]", "");
                if (left >= 2 * length || once(2)) {
                    left -= length;
                    s.append(left <= 0 ? "|" : "").append(again);
                    left += left <= 0 ? ticks : 0;
                }
            }
            left -= length;
        }
        return s.toString();
    }

    private String bars(int many, int ticks) {
        StringBuilder s = new StringBuilder();
        for (int i = 0; i < many; i++) {
            s.append(once(12) ? "@" + "GFC".charAt(below(3)) : "").append(once(12) ? " " : "").append(notes(ticks)).append(once(60) ? "" : "|");
        }
        return s.toString();
    }

    private String repeat(int depth, int ticks) {
        StringBuilder s = new StringBuilder("[");
        s.append(bars(below(2), ticks));
        if (depth < 3 && once(2) || depth == 3 && once(10)) {
            s.append(repeat(depth + 1, ticks));
        }
        s.append(bars(below(2), ticks));
        int times = 2 + below(once(3) ? 3 : 1);
        if (once(2)) {
            for (int i = 1; i <= times; i++) {
                s.append('(').append(once(25) ? 1 + below(4) : i).append(':').append(bars(below(2), ticks)).append(')');
            }
        }
        return s.append(']').append(once(25) ? 2 + below(3) : times).toString();
    }

    private String meter(int index) {
        return new String[] {"2/4", "4/8", "3/4", "4/4", "6/8", "1/4", "3/8", "1/8", "7/8", "5/4", "8/8"}[index];
    }

    private int ticks(int index) {
        return new int[] {8, 8, 12, 16, 12, 4, 6, 2, 14, 16, 16}[index];
    }

    private String text(int meter, int many) {
        StringBuilder s = new StringBuilder();
        s.append('@').append("GFC".charAt(below(3))).append(once(2) ? '#' : 'b').append(below(8)).append('M').append(meter(meter));
        int ticks = ticks(meter);
        if (once(5)) {
            s.append(notes(1 + below(ticks))).append('|');
        }
        s.append(bars(below(many + 1), ticks));
        for (int i = 0; i < 2; i++) {
            s.append(once(2) ? repeat(1, ticks) : "").append(bars(below(many + 1), ticks));
        }
        s.append(once(6) ? notes(1 + below(ticks)) : "");
        if (once(4)) {
            String signs = "@GFC#b0123456789M/48^_=-whqes.~r|[]():  x";
            int at = below(s.length());
            if (once(2)) {
                s.insert(at, signs.charAt(below(signs.length())));
            } else {
                s.deleteCharAt(at);
            }
        }
        return s.length() > 160 ? s.substring(0, 160) : s.toString();
    }

    private void askText(int piece, int voice) {
        call("error", () -> desk.error(piece, voice), () -> model.error(piece, voice), piece, voice);
        call("errorAt", () -> desk.errorAt(piece, voice), () -> model.errorAt(piece, voice), piece, voice);
        String many = call("tokens", () -> desk.tokens(piece, voice), () -> model.tokens(piece, voice), piece, voice);
        int token = below(many.isEmpty() ? 1 : Integer.parseInt(many) + 2) - 1;
        call("token", () -> desk.token(piece, voice, token), () -> model.token(piece, voice, token), piece, voice, token);
        askBars(piece, voice);
    }

    private void askBars(int piece, int voice) {
        String many = call("bars", () -> desk.bars(piece, voice), () -> model.bars(piece, voice), piece, voice);
        int bars = many.isEmpty() ? 0 : Integer.parseInt(many);
        int tempo = TEMPOS[below(TEMPOS.length)];
        call("seconds", () -> desk.seconds(piece, voice, tempo), () -> model.seconds(piece, voice, tempo), piece, voice, tempo);
        for (int i = 0; i < 4; i++) {
            int bar = below(Math.max(2, bars + 1));
            int tick = once(12) ? below(20) - 2 : below(9);
            call("pitch", () -> desk.pitch(piece, voice, bar, tick), () -> model.pitch(piece, voice, bar, tick), piece, voice, bar, tick);
        }
    }

    private void runOfTexts() {
        while (calls < CALLS && wrong <= 20) {
            int piece = below(3);
            int voice = below(4);
            type(piece, voice, text(below(11), 1 + below(3)));
            askText(piece, voice);
            int many = once(20) ? below(200) - 10 : 1 + below(20);
            call("strike", () -> desk.strike(piece, voice, many), () -> model.strike(piece, voice, many), piece, voice, many);
            askText(piece, voice);
            if (once(3)) {
                print(piece, voice);
            }
            call("strike", () -> desk.strike(piece, voice, 160), () -> model.strike(piece, voice, 160), piece, voice, 160);
        }
    }

    // ---- copies and all that follows

    private void print(int piece, int voice) {
        String number = call("print", () -> desk.print(piece, voice), () -> model.print(piece, voice), piece, voice);
        copies += number.isEmpty() || number.endsWith("n") ? 0 : 1;
    }

    private int anyCopy() {
        return once(50) ? below(44) - 2 : below(Math.max(1, copies));
    }

    private int anySinger() {
        return once(60) ? below(16) - 2 : below(12);
    }

    private void lend() {
        int copy = anyCopy();
        int singer = anySinger();
        call("lend", () -> desk.lend(copy, singer), () -> model.lend(copy, singer), copy, singer);
    }

    private void back() {
        int copy = anyCopy();
        call("back", () -> desk.back(copy), () -> model.back(copy), copy);
    }

    private void pencil(int kindOfRun) {
        int copy = anyCopy();
        int token = once(30) ? below(64) - 2 : below(14);
        int kind = once(40) ? below(8) - 1 : kindOfRun == 0 ? new int[] {0, 1, 2, 2, 1}[below(5)] : below(5);
        int value = once(4) ? 100 : kind == 1 ? below(9) - 2 : kind == 3 ? new int[] {1, 2, 3, 4, 6, 8, 12, 16, 24, 5, 0}[below(11)] : kind == 4 ? below(2) : below(4);
        call("pencil", () -> desk.pencil(copy, token, kind, value), () -> model.pencil(copy, token, kind, value), copy, token, kind, value);
        askCopy(copy);
    }

    private void askCopy(int copy) {
        call("copyError", () -> desk.copyError(copy), () -> model.copyError(copy), copy);
        int bar = once(20) ? below(44) - 2 : below(4);
        int tick = once(20) ? below(20) - 2 : below(8);
        call("copyPitch", () -> desk.copyPitch(copy, bar, tick), () -> model.copyPitch(copy, bar, tick), copy, bar, tick);
        call("copyPitchAnew", () -> desk.copyPitchAnew(copy, bar, tick), () -> model.copyPitch(copy, bar, tick), copy, bar, tick);
        call("begins", () -> desk.begins(copy, bar, tick), () -> model.begins(copy, bar, tick), copy, bar, tick);
        int other = anyCopy();
        call("differ", () -> desk.differ(copy, other), () -> model.differ(copy, other), copy, other);
        call("holder", () -> desk.holder(other), () -> model.holder(other), other);
    }

    private void askClashes(int piece) {
        int bar = once(30) ? below(44) - 2 : below(5);
        int kind = once(30) ? below(8) - 2 : below(4);
        call("clashes", () -> desk.clashes(piece, bar), () -> model.clashes(piece, bar), piece, bar);
        call("clashesOf", () -> desk.clashesOf(piece, kind), () -> model.clashesOf(piece, kind), piece, kind);
    }

    private void ask(int piece) {
        int voices = once(3) ? 15 : once(40) ? below(20) - 2 : 1 + below(15);
        int from = once(3) ? below(4) : 0;
        int to = once(30) ? below(44) - 2 : once(4) ? below(5) : from + below(3);
        String number = call("ask", () -> desk.ask(piece, voices, from, to), () -> model.ask(piece, voices, from, to), piece, voices, from, to);
        requests += number.isEmpty() || number.endsWith("n") ? 0 : 1;
    }

    private void plan() {
        call("plan", () -> desk.plan(), () -> model.plan());
        for (int i = 0; i < 2; i++) {
            int request = once(10) ? below(44) - 2 : requests - 1 - below(Math.max(1, Math.min(4, requests)));
            call("done", () -> desk.done(request), () -> model.done(request), request);
        }
    }

    private void askSinger(int piece) {
        int singer = anySinger();
        int voice = below(4);
        int bar = once(20) ? below(44) - 2 : below(4);
        call("learned", () -> desk.learned(singer, piece, voice, bar), () -> model.learned(singer, piece, voice, bar), singer, piece, voice, bar);
        call("misled", () -> desk.misled(singer, piece, voice), () -> model.misled(singer, piece, voice), singer, piece, voice);
    }

    private void judge(int piece) {
        call("judge", () -> desk.judge(piece), () -> model.judge(piece), piece);
        if (once(3)) {
            call("concert", () -> desk.concert(piece), () -> model.concert(piece), piece);
            call("concerts", () -> desk.concerts(), () -> model.concerts());
        }
    }

    private void room() {
        int room = once(20) ? below(8) - 2 : below(4);
        int places = once(20) ? below(20) - 4 : below(13);
        call("room", () -> desk.room(room, places), () -> model.room(room, places), room, places);
    }

    /** Four short texts, mostly of as many bars, so that the piece may come to a concert. */
    private void writePiece(int piece, int kindOfRun) {
        int meter = new int[] {0, 1, 5, 6, 7}[below(5)];
        int many = 1 + below(4);
        for (int voice = 0; voice < 4; voice++) {
            int its = once(12) ? below(9) : meter;
            StringBuilder s = new StringBuilder("@").append("GFC".charAt(below(3))).append(once(2) ? '#' : 'b').append(below(8)).append('M').append(meter(its));
            int bars = once(12) ? 1 + below(5) : many;
            String repeated = bars % 2 == 0 && once(3) ? "[" : "";
            s.append(repeated);
            for (int i = 0; i < (repeated.isEmpty() ? bars : bars / 2); i++) {
                s.append(kindOfRun == 0 ? below(7) + "s".repeat(0) + lengthOf(ticks(its)) : notes(ticks(its))).append('|');
            }
            type(piece, voice, s.append(repeated.isEmpty() ? "" : "]2").toString());
            print(piece, voice);
            if (once(2)) {
                print(piece, voice);
            }
        }
    }

    private String lengthOf(int ticks) {
        return new String[] {"", "s", "e", "", "q", "", "q.", "", "h", "", "", "", "h.", "", "h.5e", "", "w"}[ticks];
    }

    private void runOfCopies(int kindOfRun) {
        writePiece(0, kindOfRun);
        if (once(3)) {
            writePiece(1, kindOfRun);
        }
        for (int i = 0; i < 8; i++) {
            lend();
        }
        while (calls < CALLS && wrong <= 20) {
            int piece = once(40) ? below(6) - 1 : once(5) ? below(3) : 0;
            switch (below(16)) {
                case 0:
                case 1:
                case 2:
                    lend();
                    break;
                case 3:
                    back();
                    break;
                case 4:
                    pencil(kindOfRun);
                    break;
                case 5:
                    askClashes(piece);
                    break;
                case 6:
                case 7:
                    ask(piece);
                    plan();
                    break;
                case 8:
                    call("day", () -> desk.day(), () -> model.day());
                    break;
                case 9:
                    room();
                    break;
                case 10:
                case 11:
                    askSinger(piece);
                    break;
                case 12:
                    askBars(Math.floorMod(piece, 3), below(4));
                    break;
                case 13:
                    print(Math.floorMod(piece, 3), below(5));
                    break;
                default:
                    judge(piece);
                    break;
            }
        }
    }

    /** What the runs must have come upon, so that they are worth something. */
    private static void mustHaveSeen(String... kinds) {
        for (String kind : kinds) {
            Check.due("the runs come upon " + kind, () -> seen.getOrDefault(kind, 0) > 0, true);
        }
    }

    public static void main(String[] args) {
        for (int run = 0; run < RUNS && wrong == 0; run++) {
            ModelTest test = new ModelTest(run);
            if (run % 4 == 0) {
                test.runOfTexts();
            } else {
                test.runOfCopies(run % 4 == 1 ? 1 : 0);
            }
        }
        Check.due("answers unlike those of the model", () -> wrong, 0);
        if (args.length > 0) {
            seen.forEach((kind, many) -> System.out.println(kind + ": " + many));
        }
        for (int error = 0; error <= 10; error++) {
            mustHaveSeen("error " + error);
        }
        mustHaveSeen("copyError 0", "copyError 7", "copyError 8", "copyError 9", "judge 0", "judge 1", "judge 2", "judge 3", "judge 4", "judge 5");
        mustHaveSeen("write " + Check.STATE, "print " + Check.STATE, "lend " + Check.STATE, "back " + Check.STATE, "pencil " + Check.STATE);
        mustHaveSeen("differ " + Check.ARGUMENT, "differ " + Check.STATE, "concert answer", "concert " + Check.STATE);
        Check.end("ModelTest");
    }
}
