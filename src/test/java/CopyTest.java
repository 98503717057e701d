/** Promises 11 to 20: copies, what is pencilled into them, and how corrections travel. */
public final class CopyTest {
    private static final String H = "@G#0M2/4";
    private static final int[] LENGTHS = {1, 2, 3, 4, 6, 8, 12, 16, 24};

    public static void main(String[] args) {
        print();
        lend();
        back();
        travel();
        pencilArguments();
        pencilStates();
        pencilKinds();
        asPrinted();
        greatestTells();
        manyCorrections();
        holder();
        copyErrors();
        copyPitches();
        begins();
        differ();
        Check.end("CopyTest");
    }

    /** Copies 0 and 1 of one part, lent to the singers 0 and 1. */
    private static PartSongDesk two(String text) {
        PartSongDesk desk = Check.with(text);
        for (int copy = 0; copy < 2; copy++) {
            desk.print(0, 0);
            desk.lend(copy, copy);
        }
        return desk;
    }

    private static void print() {
        PartSongDesk desk = Check.with(H + "0h|");
        Check.due("print an empty text", () -> desk.print(0, 1), Check.STATE);
        Check.due("print a piece 3", () -> desk.print(3, 0), Check.INDEX);
        Check.due("print a piece -1", () -> desk.print(-1, 0), Check.INDEX);
        Check.due("print a voice 4", () -> desk.print(0, 4), Check.INDEX);
        Check.write(desk, 1, 2, H + "0q|0q|");
        Check.due("print what is SHORT", () -> desk.print(1, 2), Check.STATE);
        Check.due("what is not printed can be written", () -> desk.write(1, 2, '|'), 15);
        for (int i = 0; i < 40; i++) {
            int copy = i;
            Check.due("print", () -> desk.print(0, 0), copy);
            Check.due("it lies in the library", () -> desk.holder(copy), PartSongDesk.NONE);
        }
        Check.due("print copy 41", () -> desk.print(0, 0), Check.STATE);
        Check.due("no copy 40", () -> desk.holder(40), Check.INDEX);
        Check.due("print copy 41 of no voice", () -> desk.print(0, 4), Check.INDEX);

        PartSongDesk wrong = two(H + "0h|");
        wrong.pencil(0, 3, PartSongDesk.TO_TICKS, 16);
        wrong.back(0);
        Check.due("the library has it wrong", () -> wrong.bars(0, 0), PartSongDesk.NONE);
        Check.due("the text is right as it is", () -> wrong.error(0, 0), PartSongDesk.RIGHT);
        Check.due("errorAt of the text", () -> wrong.errorAt(0, 0), PartSongDesk.NONE);
        Check.due("a text that is right is printed", () -> wrong.print(0, 0), 2);
        Check.due("a new copy has no corrections", () -> wrong.copyError(2), PartSongDesk.RIGHT);
        Check.due("seconds as the library has it", () -> wrong.seconds(0, 0, 60), -1f);
        Check.due("pitch as the library has it", () -> wrong.pitch(0, 0, 0, 0), Check.INDEX);
    }

    private static void lend() {
        PartSongDesk desk = Check.with(H);
        Check.write(desk, 0, 3, H);
        Check.write(desk, 1, 0, H);
        Check.due("lend what is not printed", () -> desk.lend(0, 0), Check.INDEX);
        desk.print(0, 0);
        desk.print(0, 3);
        desk.print(1, 0);
        desk.print(0, 0);
        Check.due("lend to a singer -1", () -> desk.lend(0, -1), Check.INDEX);
        Check.due("lend to a singer 12", () -> desk.lend(0, 12), Check.INDEX);
        Check.due("lend a copy -1", () -> desk.lend(-1, 0), Check.INDEX);
        Check.due("lend a copy 4", () -> desk.lend(4, 0), Check.INDEX);
        Check.due("lend", () -> desk.lend(0, 11), 0);
        Check.due("lend what is lent", () -> desk.lend(0, 11), Check.STATE);
        Check.due("lend what is lent to another one", () -> desk.lend(0, 5), Check.STATE);
        Check.due("lend what is lent to no singer", () -> desk.lend(0, 12), Check.INDEX);
        Check.due("lend another copy of the part", () -> desk.lend(3, 11), Check.STATE);
        Check.due("lend a copy of another voice", () -> desk.lend(1, 11), Check.STATE);
        Check.due("lend a copy of another piece", () -> desk.lend(2, 11), 0);
        Check.due("lend to another singer", () -> desk.lend(1, 0), 0);
        desk.back(0);
        Check.due("lend again", () -> desk.lend(3, 11), 0);
        Check.due("the singer has the other one", () -> desk.holder(0), PartSongDesk.NONE);
    }

    private static void back() {
        PartSongDesk desk = two(H + "0q0q|");
        desk.pencil(0, 3, PartSongDesk.TO_PLACE, 1);
        desk.pencil(0, 4, PartSongDesk.TO_PLACE, 2);
        desk.pencil(1, 3, PartSongDesk.TO_PLACE, 3);
        Check.due("back of a copy 2", () -> desk.back(2), Check.INDEX);
        Check.due("back of a copy -1", () -> desk.back(-1), Check.INDEX);
        Check.due("back", () -> desk.back(0), 2);
        Check.due("back of what is not lent", () -> desk.back(0), Check.STATE);
        Check.due("lend with the library's corrections", () -> desk.lend(0, 4), 2);
        Check.due("nothing new", () -> desk.back(0), 0);
        Check.due("one new", () -> desk.back(1), 1);
        Check.due("lend with all", () -> desk.lend(0, 4), 3);
        desk.pencil(0, 4, PartSongDesk.TO_PLACE, 2);
        Check.due("the same once more is another correction", () -> desk.back(0), 1);
    }

    private static void travel() {
        PartSongDesk desk = two(H + "0h|");
        desk.pencil(0, 3, PartSongDesk.TO_PLACE, 1);
        desk.pencil(1, 3, PartSongDesk.TO_SIGN, 1);
        Check.due("not yet in the library", () -> desk.pitch(0, 0, 0, 0), 52);
        desk.back(0);
        Check.due("in the library", () -> desk.pitch(0, 0, 0, 0), 53);
        Check.due("not in the other copy", () -> desk.copyPitch(1, 0, 0), 53);
        desk.back(1);
        Check.due("both in the library", () -> desk.pitch(0, 0, 0, 0), 54);
        Check.due("a copy in the library stays as it is", () -> desk.copyPitch(0, 0, 0), 53);
        Check.due("and the other one", () -> desk.copyPitch(1, 0, 0), 53);
        Check.due("lend", () -> desk.lend(0, 7), 2);
        Check.due("with both", () -> desk.copyPitch(0, 0, 0), 54);
        Check.due("and anew", () -> desk.copyPitchAnew(0, 0, 0), 54);
        Check.due("a new copy", () -> desk.print(0, 0), 2);
        Check.due("has none", () -> desk.copyPitch(2, 0, 0), 52);
        Check.due("until it is lent", () -> desk.lend(2, 8), 2);
        Check.due("and has both then", () -> desk.copyPitch(2, 0, 0), 54);
        Check.write(desk, 0, 1, H + "0h|");
        desk.print(0, 1);
        Check.due("another part has none", () -> desk.lend(3, 9), 0);
        Check.due("another part as it is", () -> desk.pitch(0, 1, 0, 0), 52);
    }

    private static void pencilArguments() {
        PartSongDesk desk = two(H + "^0q.~0e|rh|");
        Check.due("pencil into a copy 2", () -> desk.pencil(2, 0, 9, 0), Check.INDEX);
        Check.due("pencil into a copy -1", () -> desk.pencil(-1, 0, 0, 0), Check.INDEX);
        Check.due("pencil at a token -1", () -> desk.pencil(0, -1, 9, 0), Check.INDEX);
        Check.due("pencil at a token 8", () -> desk.pencil(0, 8, 9, 0), Check.INDEX);
        for (int bad : new int[] {-1, 5, 100, Integer.MIN_VALUE, Integer.MAX_VALUE}) {
            Check.due("pencil a kind " + bad, () -> desk.pencil(0, 0, bad, 0), Check.ARGUMENT);
            Check.due("pencil a kind " + bad, () -> desk.pencil(0, 0, bad, 100), Check.ARGUMENT);
        }
        Check.due("nothing was pencilled", () -> desk.pencil(0, 0, PartSongDesk.TO_CLEF, 0), 0);
        Check.due("nothing but that comes back", () -> desk.back(0), 1);
        // not all of them on one object, which is good for 512 calls
        pencilValues(-11, 45);
        pencilValues(46, 101);
    }

    private static void pencilValues(int least, int greatest) {
        PartSongDesk desk = two(H + "^0q.~0e|rh|");
        for (int value = least; value <= greatest; value++) {
            int v = value;
            boolean clef = v == 100 || v >= 0 && v <= 2;
            boolean place = v == 100 || v >= -9 && v <= 19;
            boolean sign = v == 100 || v >= 0 && v <= 3;
            boolean rest = v == 100 || v == 0 || v == 1;
            boolean ticks = v == 100;
            for (int length : LENGTHS) {
                ticks |= v == length;
            }
            // at a token of another kind, so that the good ones throw as well, and change nothing
            Check.due("TO_CLEF " + v, () -> desk.pencil(0, 3, PartSongDesk.TO_CLEF, v), clef ? Check.STATE : Check.ARGUMENT);
            Check.due("TO_PLACE " + v, () -> desk.pencil(0, 0, PartSongDesk.TO_PLACE, v), place ? Check.STATE : Check.ARGUMENT);
            Check.due("TO_SIGN " + v, () -> desk.pencil(0, 6, PartSongDesk.TO_SIGN, v), sign ? Check.STATE : Check.ARGUMENT);
            Check.due("TO_TICKS " + v, () -> desk.pencil(0, 5, PartSongDesk.TO_TICKS, v), ticks ? Check.STATE : Check.ARGUMENT);
            Check.due("TO_REST " + v, () -> desk.pencil(0, 6, PartSongDesk.TO_REST, v), rest ? Check.STATE : Check.ARGUMENT);
        }
        Check.due("nothing was pencilled", () -> desk.pencil(0, 0, PartSongDesk.TO_CLEF, 0), 0);
        Check.due("nothing but that comes back", () -> desk.back(0), 1);
    }

    private static void pencilStates() {
        PartSongDesk desk = two("@G#0M2/4 0h|rh|[@C(1:)(2:)]2");
        boolean[][] fits = {
            {true, false, false, false, false}, {false, false, false, false, false}, {false, false, false, false, false},
            {false, true, true, true, true}, {false, false, false, false, false}, {false, false, false, true, false}, {false, false, false, false, false},
            {false, false, false, false, false}, {true, false, false, false, false}, {false, false, false, false, false}, {false, false, false, false, false}};
        int number = 0;
        for (int token = 0; token < fits.length; token++) {
            for (int kind = 0; kind < 5; kind++) {
                int t = token;
                int k = kind;
                Check.due("pencil at the token " + t + " the kind " + k, () -> desk.pencil(0, t, k, 100), fits[t][k] ? number : Check.STATE);
                number += fits[t][k] ? 1 : 0;
            }
        }
    }

    private static void pencilKinds() {
        PartSongDesk desk = two("@G#1M1/8 1s1s|re|1e~|1e|");
        Check.due("as printed", () -> all(desk, 0), "54+ 54+ | r r | 54+ 54 | 54 54");
        desk.pencil(0, 0, PartSongDesk.TO_CLEF, 2);
        Check.due("TO_CLEF C", () -> all(desk, 0), "43+ 43+ | r r | 43+ 43 | 43 43");
        desk.pencil(0, 0, PartSongDesk.TO_CLEF, 1);
        Check.due("TO_CLEF F", () -> all(desk, 0), "33+ 33+ | r r | 33+ 33 | 33 33");
        desk.pencil(0, 0, PartSongDesk.TO_CLEF, 0);
        desk.pencil(0, 3, PartSongDesk.TO_SIGN, 3);
        Check.due("TO_SIGN =", () -> all(desk, 0), "53+ 53+ | r r | 54+ 54 | 54 54");
        desk.pencil(0, 3, PartSongDesk.TO_SIGN, 2);
        Check.due("TO_SIGN _", () -> all(desk, 0), "52+ 52+ | r r | 54+ 54 | 54 54");
        desk.pencil(0, 3, PartSongDesk.TO_SIGN, 0);
        desk.pencil(0, 8, PartSongDesk.TO_SIGN, 1);
        Check.due("TO_SIGN ^, of the same pitch", () -> all(desk, 0), "54+ 54+ | r r | 54+ 54 | 54 54");
        desk.pencil(0, 4, PartSongDesk.TO_PLACE, -9);
        desk.pencil(0, 3, PartSongDesk.TO_PLACE, 19);
        Check.due("TO_PLACE", () -> all(desk, 0), "84+ 36+ | r r | 54+ 54 | 54 54");
        restsAndTicks();
        tiesAndRests();
    }

    private static void restsAndTicks() {
        PartSongDesk desk = two("@G#1M1/8 1s1s|re|1e~|1e|");
        desk.pencil(0, 4, PartSongDesk.TO_PLACE, -9);
        desk.pencil(0, 3, PartSongDesk.TO_PLACE, 19);
        desk.pencil(0, 8, PartSongDesk.TO_REST, 1);
        Check.due("TO_REST of one with a tie", () -> all(desk, 0), "84+ 36+ | r r | r r | 54+ 54");
        desk.pencil(0, 8, PartSongDesk.TO_REST, 0);
        desk.pencil(0, 4, PartSongDesk.TO_REST, 1);
        Check.due("TO_REST", () -> all(desk, 0), "84+ r | r r | 54+ 54 | 54 54");
        desk.pencil(0, 4, PartSongDesk.TO_REST, 0);
        Check.due("TO_REST 0", () -> all(desk, 0), "84+ 36+ | r r | 54+ 54 | 54 54");
        desk.pencil(0, 6, PartSongDesk.TO_TICKS, 1);
        Check.due("TO_TICKS of a rest", () -> desk.copyError(0), PartSongDesk.SHORT);
        desk.pencil(0, 6, PartSongDesk.TO_TICKS, 24);
        Check.due("TO_TICKS of a rest", () -> desk.copyError(0), PartSongDesk.LONG);
        desk.pencil(0, 6, PartSongDesk.TO_TICKS, 2);
        Check.due("the other copy is as printed", () -> all(desk, 1), "54+ 54+ | r r | 54+ 54 | 54 54");
        Check.due("the library is as printed", () -> Check.pitches(desk, 0, 0), "54 54 | r r | 54 54 | 54 54");
        desk.pencil(0, 3, PartSongDesk.TO_TICKS, 2);
        Check.due("TO_TICKS that are too many", () -> desk.copyError(0), PartSongDesk.LONG);
        desk.pencil(0, 4, PartSongDesk.TO_TICKS, 1);
        desk.pencil(0, 3, PartSongDesk.TO_TICKS, 1);
        Check.due("and right again", () -> all(desk, 0), "84+ 36+ | r r | 54+ 54 | 54 54");
    }

    private static void tiesAndRests() {
        PartSongDesk desk = two("@G#0M1/8 ^1e~|^1s1s|");
        desk.pencil(0, 3, PartSongDesk.TO_REST, 1);
        Check.due("the tie of a rest is none", () -> all(desk, 0), "r r | 54+ 54+");
        desk.pencil(0, 3, PartSongDesk.TO_TICKS, 1);
        Check.due("a rest that was a note has ticks", () -> all(desk, 0), "r r | 54+ 54+");
        desk.pencil(0, 5, PartSongDesk.TO_REST, 1);
        Check.due("the sign of a rest is none", () -> all(desk, 0), "r r | r 53+");
        desk.pencil(0, 3, PartSongDesk.TO_TICKS, 2);
        desk.pencil(0, 3, PartSongDesk.TO_REST, 0);
        Check.due("a tie to a rest", () -> desk.copyError(0), PartSongDesk.TIE);
        desk.pencil(0, 5, PartSongDesk.TO_REST, 0);
        Check.due("a tie to a note", () -> all(desk, 0), "54+ 54 | 54 54+");
    }

    private static void asPrinted() {
        PartSongDesk desk = two("@C#0M1/8 ^1s_2s|rs1s|");
        String printed = all(desk, 1);
        desk.pencil(0, 0, PartSongDesk.TO_CLEF, 0);
        desk.pencil(0, 3, PartSongDesk.TO_PLACE, 9);
        desk.pencil(0, 4, PartSongDesk.TO_SIGN, 0);
        desk.pencil(0, 6, PartSongDesk.TO_TICKS, 2);
        desk.pencil(0, 7, PartSongDesk.TO_REST, 1);
        Check.due("changed", () -> desk.copyError(0), PartSongDesk.LONG);
        desk.pencil(0, 6, PartSongDesk.TO_TICKS, 100);
        Check.due("ticks as printed", () -> all(desk, 0), "68+ 55+ | r r");
        desk.pencil(0, 0, PartSongDesk.TO_CLEF, 100);
        Check.due("clef as printed", () -> all(desk, 0), "58+ 45+ | r r");
        desk.pencil(0, 3, PartSongDesk.TO_PLACE, 100);
        Check.due("place as printed", () -> all(desk, 0), "44+ 45+ | r r");
        desk.pencil(0, 4, PartSongDesk.TO_SIGN, 100);
        Check.due("sign as printed", () -> all(desk, 0), "44+ 44+ | r r");
        desk.pencil(0, 7, PartSongDesk.TO_REST, 100);
        Check.due("a note as printed", () -> all(desk, 0), printed);
        Check.due("all corrections come back", () -> desk.back(0), 10);
    }

    /** The greatest number tells, whenever it came into the set. */
    private static void greatestTells() {
        PartSongDesk desk = two(H + "0h|");
        desk.pencil(0, 3, PartSongDesk.TO_PLACE, 1);
        desk.pencil(1, 3, PartSongDesk.TO_PLACE, 2);
        desk.pencil(0, 3, PartSongDesk.TO_PLACE, 3);
        desk.pencil(0, 3, PartSongDesk.TO_SIGN, 1);
        desk.back(0);
        Check.due("the copy that comes first", () -> desk.pitch(0, 0, 0, 0), 58);
        desk.back(1);
        Check.due("a lower number that comes later", () -> desk.pitch(0, 0, 0, 0), 58);
        desk.lend(1, 1);
        desk.pencil(1, 3, PartSongDesk.TO_PLACE, 100);
        Check.due("as printed tells, too", () -> desk.copyPitch(1, 0, 0), 53);
        desk.back(1);
        Check.due("in the library as well", () -> desk.pitch(0, 0, 0, 0), 53);
    }

    private static void manyCorrections() {
        PartSongDesk desk = two(H + "0h|");
        for (int i = 0; i < 200; i++) {
            int number = i;
            Check.due("pencil", () -> desk.pencil(number % 2, 3, PartSongDesk.TO_PLACE, number % 7), number);
        }
        Check.due("pencil number 200", () -> desk.pencil(0, 3, PartSongDesk.TO_PLACE, 1), Check.STATE);
        Check.due("the last one of the copy 0", () -> desk.copyPitch(0, 0, 0), 55);
        Check.due("the last one of the copy 1", () -> desk.copyPitch(1, 0, 0), 57);
        Check.due("a value that is none", () -> desk.pencil(0, 3, PartSongDesk.TO_PLACE, 20), Check.ARGUMENT);
        Check.due("all come back", () -> desk.back(0), 100);
        Check.due("all come back", () -> desk.back(1), 100);
        Check.due("all are lent", () -> desk.lend(0, 0), 200);
        Check.due("the last one of all", () -> desk.copyPitch(0, 0, 0), 57);
        desk.back(0);
        Check.due("pencil into what is not lent", () -> desk.pencil(0, 3, PartSongDesk.TO_PLACE, 1), Check.STATE);
    }

    private static void holder() {
        PartSongDesk desk = Check.with(H);
        desk.print(0, 0);
        Check.due("holder", () -> desk.holder(0), PartSongDesk.NONE);
        Check.due("pencil into what lies in the library", () -> desk.pencil(0, 0, PartSongDesk.TO_CLEF, 1), Check.STATE);
        desk.lend(0, 11);
        Check.due("holder", () -> desk.holder(0), 11);
        desk.back(0);
        Check.due("holder", () -> desk.holder(0), PartSongDesk.NONE);
        desk.lend(0, 0);
        Check.due("holder", () -> desk.holder(0), 0);
        Check.due("holder of a copy -1", () -> desk.holder(-1), Check.INDEX);
        Check.due("holder of a copy 1", () -> desk.holder(1), Check.INDEX);
    }

    private static void copyErrors() {
        PartSongDesk desk = two(H + "[[[0h|]4]3]3[0h|]3 0q~0q");
        Check.due("copyError", () -> desk.copyError(0), PartSongDesk.RIGHT);
        desk.pencil(0, 15, PartSongDesk.TO_PLACE, 100);
        Check.due("copyError of what is as it was", () -> desk.copyError(0), PartSongDesk.RIGHT);
        desk.pencil(0, 16, PartSongDesk.TO_TICKS, 8);
        Check.due("LONG at the end", () -> desk.copyError(0), PartSongDesk.LONG);
        desk.pencil(0, 16, PartSongDesk.TO_TICKS, 2);
        Check.due("SHORT at the end", () -> desk.copyError(0), PartSongDesk.SHORT);
        desk.pencil(0, 16, PartSongDesk.TO_PLACE, 1);
        Check.due("TIE ahead of SHORT", () -> desk.copyError(0), PartSongDesk.TIE);
        Check.due("copyPitch of what is wrong", () -> desk.copyPitch(0, 0, 0), Check.INDEX);
        Check.due("copyPitchAnew of what is wrong", () -> desk.copyPitchAnew(0, 0, 0), Check.INDEX);
        Check.due("begins of what is wrong", () -> desk.begins(0, 0, 0), Check.INDEX);
        Check.due("the other copy", () -> desk.copyError(1), PartSongDesk.RIGHT);
        Check.due("copyError of a copy 2", () -> desk.copyError(2), Check.INDEX);
        Check.due("copyError of a copy -1", () -> desk.copyError(-1), Check.INDEX);
        Check.due("all bars", () -> desk.bars(0, 0), 40);
    }

    private static void copyPitches() {
        PartSongDesk desk = two("@G#0M1/4 0s|0ere|");
        Check.due("copyPitch of a rest that makes whole", () -> desk.copyPitch(0, 0, 2), PartSongDesk.SILENCE);
        Check.due("copyPitch", () -> desk.copyPitch(0, 0, 3), 52);
        Check.due("copyPitch", () -> desk.copyPitch(0, 1, 1), 52);
        Check.due("copyPitchAnew", () -> desk.copyPitchAnew(0, 1, 1), 52);
        Check.due("copyPitch of a rest", () -> desk.copyPitch(0, 1, 2), PartSongDesk.SILENCE);
        Check.due("copyPitchAnew of a rest", () -> desk.copyPitchAnew(0, 1, 2), PartSongDesk.SILENCE);
        desk.pencil(0, 5, PartSongDesk.TO_PLACE, 1);
        Check.due("copyPitchAnew with corrections", () -> desk.copyPitchAnew(0, 1, 1), 53);
        Check.due("copyPitchAnew of the other copy", () -> desk.copyPitchAnew(1, 1, 1), 52);
        Check.due("copyPitch behind that", () -> desk.copyPitch(0, 1, 1), 53);
        for (int bad : new int[] {-1, 2, 40, Integer.MAX_VALUE, Integer.MIN_VALUE}) {
            Check.due("copyPitch of a copy " + bad, () -> desk.copyPitch(bad, 0, 0), Check.INDEX);
            Check.due("copyPitchAnew of a copy " + bad, () -> desk.copyPitchAnew(bad, 0, 0), Check.INDEX);
            Check.due("begins of a copy " + bad, () -> desk.begins(bad, 0, 0), Check.INDEX);
            Check.due("copyPitch of a bar " + bad, () -> desk.copyPitch(0, bad, 0), Check.INDEX);
            Check.due("copyPitchAnew of a bar " + bad, () -> desk.copyPitchAnew(0, bad, 0), Check.INDEX);
            Check.due("begins of a bar " + bad, () -> desk.begins(0, bad, 0), Check.INDEX);
        }
        for (int bad : new int[] {-1, 4, 16, Integer.MAX_VALUE, Integer.MIN_VALUE}) {
            Check.due("copyPitch of a tick " + bad, () -> desk.copyPitch(0, 0, bad), Check.INDEX);
            Check.due("copyPitchAnew of a tick " + bad, () -> desk.copyPitchAnew(0, 0, bad), Check.INDEX);
            Check.due("begins of a tick " + bad, () -> desk.begins(0, 0, bad), Check.INDEX);
        }
    }

    private static void begins() {
        PartSongDesk desk = two("@G#0M4/4 0q.|0q0q~0q0q|0w~|0s0qrs1q.1e0e");
        Check.due("a pickup", () -> desk.begins(0, 0, 10), true);
        Check.due("a rest ahead", () -> desk.begins(0, 0, 9), false);
        Check.due("behind its first tick", () -> desk.begins(0, 0, 11), false);
        int[] first = {1, 0, 0, 0, 1, 0, 0, 0, 0, 0, 0, 0, 1, 0, 0, 0};
        int[] third = {0, 1, 0, 0, 0, 0, 1, 0, 0, 0, 0, 0, 1, 0, 1, 0};
        for (int tick = 0; tick < 16; tick++) {
            int t = tick;
            Check.due("begins in the bar 1 at " + t, () -> desk.begins(0, 1, t), first[t] == 1);
            Check.due("begins in the bar 2 at " + t, () -> desk.begins(0, 2, t), t == 0);
            Check.due("begins in the bar 3 at " + t, () -> desk.begins(0, 3, t), third[t] == 1);
        }
    }

    private static void differ() {
        PartSongDesk desk = two("@G#0M1/8 0e|1e|2e|0s0s|");
        Check.write(desk, 0, 1, "@G#0M1/8 0e|1e|2e|0s0s|");
        desk.print(0, 1);
        Check.due("alike", () -> desk.differ(0, 1), 0);
        Check.due("a copy and itself", () -> desk.differ(0, 0), 0);
        Check.due("unlike parts", () -> desk.differ(0, 2), Check.ARGUMENT);
        Check.due("a copy 3", () -> desk.differ(0, 3), Check.INDEX);
        Check.due("a copy 3", () -> desk.differ(3, 0), Check.INDEX);
        Check.due("a copy -1", () -> desk.differ(-1, 0), Check.INDEX);
        Check.due("a copy -1", () -> desk.differ(2, -1), Check.INDEX);
        desk.pencil(0, 5, PartSongDesk.TO_PLACE, 2);
        Check.due("another pitch", () -> desk.differ(0, 1), 1);
        Check.due("the other way round", () -> desk.differ(1, 0), 1);
        desk.pencil(0, 9, PartSongDesk.TO_REST, 1);
        desk.pencil(1, 7, PartSongDesk.TO_REST, 1);
        Check.due("rests", () -> desk.differ(0, 1), 3);
        desk.pencil(1, 9, PartSongDesk.TO_TICKS, 2);
        Check.due("one is wrong", () -> desk.differ(0, 1), Check.STATE);
        Check.due("the other way round", () -> desk.differ(1, 0), Check.STATE);
        Check.due("wrong and itself", () -> desk.differ(1, 1), Check.STATE);
        Check.due("wrong, of unlike parts", () -> desk.differ(1, 2), Check.ARGUMENT);
        beginningsDiffer();
        lateTicksDiffer();
    }

    private static void beginningsDiffer() {
        PartSongDesk desk = two("@G#0M1/8 0s0s|0s~0s|0e~|0e|");
        desk.pencil(0, 4, PartSongDesk.TO_PLACE, 0);
        Check.due("the same pitches", () -> desk.differ(0, 1), 0);
        desk.pencil(0, 3, PartSongDesk.TO_SIGN, 3);
        Check.due("the same pitches with a sign", () -> desk.differ(0, 1), 0);
        desk.pencil(0, 9, PartSongDesk.TO_REST, 1);
        Check.due("a rest, and the note behind it begins", () -> desk.differ(0, 1), 2);
        Check.due("it begins", () -> desk.begins(0, 3, 0), true);
        Check.due("it does not begin", () -> desk.begins(1, 3, 0), false);
    }

    private static void lateTicksDiffer() {
        PartSongDesk desk = two("@G#0M4/4 0s|0h0h|0h0q.0e|0w");
        desk.pencil(0, 3, PartSongDesk.TO_TICKS, 2);
        Check.due("a longer pickup", () -> desk.differ(0, 1), 1);
        desk.pencil(0, 6, PartSongDesk.TO_PLACE, 1);
        desk.pencil(0, 10, PartSongDesk.TO_REST, 1);
        Check.due("in the second half of bars", () -> desk.differ(0, 1), 3);
        desk.pencil(0, 12, PartSongDesk.TO_PLACE, 19);
        Check.due("in all bars", () -> desk.differ(0, 1), 4);
        PartSongDesk none = two(H);
        Check.due("no bars", () -> none.differ(0, 1), 0);
    }

    /** All of a copy: pitches, a + where a note begins, and r for rests; TIE and so on if it is wrong. */
    private static String all(PartSongDesk desk, int copy) {
        int error = desk.copyError(copy);
        if (error != PartSongDesk.RIGHT) {
            return error == PartSongDesk.TIE ? "TIE" : "error " + error;
        }
        StringBuilder all = new StringBuilder();
        for (int bar = 0; has(desk, copy, bar, 0); bar++) {
            all.append(bar > 0 ? " | " : "");
            for (int tick = 0; has(desk, copy, bar, tick); tick++) {
                int pitch = desk.copyPitch(copy, bar, tick);
                all.append(tick > 0 ? " " : "").append(pitch == PartSongDesk.SILENCE ? "r" : String.valueOf(pitch));
                all.append(desk.begins(copy, bar, tick) ? "+" : "");
                all.append(pitch == desk.copyPitchAnew(copy, bar, tick) ? "" : "!");
            }
        }
        return all.toString();
    }

    private static boolean has(PartSongDesk desk, int copy, int bar, int tick) {
        return !Check.answer(() -> desk.copyPitch(copy, bar, tick)).equals(Check.INDEX);
    }
}
