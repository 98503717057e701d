/** Each sentence of "Copies and corrections" and the promises 11 to 20 that names a boundary, with a test of its own. */
public final class CopyEdgeTest {
    private static final String H = "@G#0M2/4";
    private static final int PRINTED = PartSongDesk.AS_PRINTED;
    /** Nine characters, forty bars of sixteen ticks, and the last one unlike the others. */
    private static final String FORTY = "@G#0M4/4 [[[0w|]4]3]3[0w|]3 1h2h";

    public static void main(String[] args) {
        copies();
        numbers();
        kindsAndValues();
        sets();
        printed();
        lentAndBack();
        pencilled();
        asked();
        Check.end("CopyEdgeTest");
    }

    /** The copies 0 and 1 of one part, lent to the singers 0 and 1. */
    private static PartSongDesk two(String text) {
        PartSongDesk desk = Check.with(text);
        for (int copy = 0; copy < 2; copy++) {
            desk.print(0, 0);
            desk.lend(copy, copy);
        }
        return desk;
    }

    /** A bar of a copy: pitches, a + where a note begins, r for a rest; or its error. */
    private static String bar(PartSongDesk desk, int copy, int bar, int ticks) {
        if (desk.copyError(copy) != PartSongDesk.RIGHT) {
            return "error " + desk.copyError(copy);
        }
        StringBuilder all = new StringBuilder();
        for (int tick = 0; tick < ticks; tick++) {
            int pitch = desk.copyPitch(copy, bar, tick);
            all.append(tick > 0 ? " " : "").append(pitch == PartSongDesk.SILENCE ? "r" : String.valueOf(pitch));
            all.append(desk.begins(copy, bar, tick) ? "+" : "");
            all.append(desk.copyPitchAnew(copy, bar, tick) == pitch ? "" : "!");
        }
        return all.toString();
    }

    private static void copies() {
        Check.sentence("Copies are numbered from 0, at most 40.", () -> {
            PartSongDesk desk = new PartSongDesk();
            for (int voice = 0; voice < 4; voice++) {
                Check.write(desk, voice % 3, voice, H + "0h|");
            }
            for (int i = 0; i < 40; i++) {
                int copy = i;
                Check.due("no copy yet", () -> desk.copyError(copy), Check.INDEX);
                Check.due("print", () -> desk.print(copy % 4 % 3, copy % 4), copy);
                Check.due("there is one", () -> desk.copyError(copy), PartSongDesk.RIGHT);
            }
            for (int voice = 0; voice < 4; voice++) {
                int v = voice;
                Check.due("the copy 41", () -> desk.print(v % 3, v), Check.STATE);
            }
            for (int bad : new int[] {-1, 40, 41, Integer.MIN_VALUE, Integer.MAX_VALUE}) {
                Check.due("holder of " + bad, () -> desk.holder(bad), Check.INDEX);
                Check.due("lend " + bad, () -> desk.lend(bad, 0), Check.INDEX);
                Check.due("back of " + bad, () -> desk.back(bad), Check.INDEX);
                Check.due("pencil into " + bad, () -> desk.pencil(bad, 0, 0, 0), Check.INDEX);
            }
            Check.due("lend the last one", () -> desk.lend(39, 11), 0);
            Check.due("pencil into the last one", () -> desk.pencil(39, 3, PartSongDesk.TO_PLACE, 1), 0);
            Check.due("it comes back", () -> desk.back(39), 1);
            Check.due("into its part", () -> desk.pitch(0, 3, 0, 0), 53);
            Check.due("into no other", () -> desk.pitch(0, 0, 0, 0), 52);
        });
        Check.sentence("A copy is of a part, and lies in the library, or is lent to a singer.", () -> {
            PartSongDesk desk = two(H);
            desk.print(0, 0);
            Check.due("lent to the singer 0", () -> desk.holder(0), 0);
            Check.due("lies there", () -> desk.holder(2), PartSongDesk.NONE);
            desk.back(0);
            Check.due("lies there again", () -> desk.holder(0), PartSongDesk.NONE);
            desk.lend(2, 11);
            Check.due("lent to the singer 11", () -> desk.holder(2), 11);
        });
        Check.sentence("A part is printed if it has a copy; its text stays as it is then.", () -> {
            PartSongDesk desk = Check.with(H + "0h|");
            Check.write(desk, 0, 1, H + "0h|");
            Check.due("written ahead of it", () -> desk.write(0, 0, ' '), 12);
            desk.print(0, 0);
            Check.due("not written behind it", () -> desk.write(0, 0, ' '), Check.STATE);
            Check.due("not struck behind it", () -> desk.strike(0, 0, 160), Check.STATE);
            desk.lend(0, 0);
            Check.due("nor when it is lent", () -> desk.write(0, 0, ' '), Check.STATE);
            desk.back(0);
            Check.due("nor when it came back", () -> desk.strike(0, 0, 1), Check.STATE);
            Check.due("its tokens", () -> desk.tokens(0, 0), 5);
            Check.due("another part can be written", () -> desk.write(0, 1, ' '), 12);
            Check.due("and struck", () -> desk.strike(0, 1, 160), 0);
        });
    }

    private static void numbers() {
        Check.sentence("Corrections are numbered from 0 by when they were pencilled, at most 200.", CopyEdgeTest::twoHundred);
        Check.sentence("A correction is for a token of the part, counted from 0", () -> {
            PartSongDesk full = two("@G#0M4/4 " + ("rw|").repeat(27) + "rhrq1q");
            Check.due("sixty tokens", () -> full.tokens(0, 0), 60);
            Check.due("the last one", () -> full.pencil(0, 59, PartSongDesk.TO_PLACE, 2), 0);
            Check.due("it is so", () -> full.copyPitch(0, 27, 15), 55);
            Check.due("the first one", () -> full.pencil(0, 0, PartSongDesk.TO_CLEF, 1), 1);
            Check.due("it is so", () -> full.copyPitch(0, 27, 15), 35);
            for (int bad : new int[] {-1, 60, 61, Integer.MIN_VALUE, Integer.MAX_VALUE}) {
                Check.due("pencil at the token " + bad, () -> full.pencil(0, bad, PartSongDesk.TO_TICKS, 1), Check.INDEX);
            }
            Check.due("nothing was pencilled by that", () -> full.back(0), 2);
        });
    }

    private static void twoHundred() {
        PartSongDesk desk = two("@G#0M1/8 0e|1e|");
        Check.write(desk, 1, 0, H + "0h|");
        desk.print(1, 0);
        desk.lend(2, 0);
        for (int i = 0; i < 200; i++) {
            int number = i;
            Check.due("pencil", () -> desk.pencil(number % 3, number < 3 ? 0 : 3, number < 3 ? PartSongDesk.TO_CLEF : PartSongDesk.TO_PLACE, number < 3 ? 0 : number % 20), number);
        }
        for (int copy = 0; copy < 3; copy++) {
            int c = copy;
            Check.due("the correction 200", () -> desk.pencil(c, 3, PartSongDesk.TO_PLACE, 9), Check.STATE);
        }
        Check.due("a value that is none", () -> desk.pencil(0, 3, PartSongDesk.TO_PLACE, 20), Check.ARGUMENT);
        Check.due("a token that is none", () -> desk.pencil(0, 7, PartSongDesk.TO_PLACE, 20), Check.INDEX);
        // the last ones are 197 of the copy 2, 198 of 0 and 199 of 1, with the places 17, 18 and 19
        Check.due("the copy 0", () -> desk.copyPitch(0, 0, 0), 83);
        Check.due("the copy 1", () -> desk.copyPitch(1, 0, 0), 84);
        Check.due("the copy 2", () -> desk.copyPitch(2, 0, 0), 81);
        Check.due("67 come back", () -> desk.back(0), 67);
        Check.due("67 come back", () -> desk.back(1), 67);
        Check.due("66 come back", () -> desk.back(2), 66);
        Check.due("134 are lent", () -> desk.lend(0, 4), 134);
        Check.due("66 are lent", () -> desk.lend(2, 4), 66);
        Check.due("the greatest number tells", () -> desk.copyPitch(0, 0, 0), 84);
        Check.due("in the library, too", () -> desk.pitch(0, 0, 0, 0), 84);
        Check.due("still no more", () -> desk.pencil(0, 3, PartSongDesk.TO_PLACE, 9), Check.STATE);
    }

    private static void kindsAndValues() {
        Check.sentence("TO_CLEF, for a CLEF: 0 G, 1 F, 2 C.", () -> {
            PartSongDesk desk = two("@C#0M1/8 0s@G0s");
            String[] first = {"52+ 52+", "31+ 52+", "41+ 52+"};
            String[] second = {"41+ 52+", "41+ 31+", "41+ 41+"};
            values(desk, 0, PartSongDesk.TO_CLEF, 0, 2);
            for (int value = 0; value < 3; value++) {
                desk.pencil(0, 0, PartSongDesk.TO_CLEF, value);
                String want = first[value];
                Check.due("the first clef " + value, () -> bar(desk, 0, 0, 2), want);
            }
            desk.pencil(0, 0, PartSongDesk.TO_CLEF, PRINTED);
            for (int value = 0; value < 3; value++) {
                desk.pencil(0, 4, PartSongDesk.TO_CLEF, value);
                String want = second[value];
                Check.due("the second clef " + value, () -> bar(desk, 0, 0, 2), want);
            }
            kinds(desk, PartSongDesk.TO_CLEF, 0, 4);
        });
        Check.sentence("TO_PLACE, for a NOTE: -9 to 19.", () -> {
            PartSongDesk desk = two("@G#0M1/8 0e");
            int[] natural = {0, 2, 4, 5, 7, 9, 11};
            values(desk, 3, PartSongDesk.TO_PLACE, -9, 19);
            for (int place = -9; place <= 19; place++) {
                int pitch = 12 * ((30 + place) / 7) + natural[(30 + place) % 7];
                desk.pencil(0, 3, PartSongDesk.TO_PLACE, place);
                Check.due("the place " + place, () -> desk.copyPitch(0, 0, 0), pitch);
            }
            kinds(desk, PartSongDesk.TO_PLACE, 3);
        });
        Check.sentence("TO_SIGN, for a NOTE: 0 none, 1 ^, 2 _, 3 =.", () -> {
            PartSongDesk desk = two("@G#1M1/8 _1s1s");
            String[] want = {"54+ 54+", "54+ 54+", "52+ 52+", "53+ 53+"};
            values(desk, 3, PartSongDesk.TO_SIGN, 0, 3);
            for (int sign = 0; sign < 4; sign++) {
                String due = want[sign];
                desk.pencil(0, 3, PartSongDesk.TO_SIGN, sign);
                Check.due("the sign " + sign, () -> bar(desk, 0, 0, 2), due);
            }
            desk.pencil(0, 3, PartSongDesk.TO_SIGN, 0);
            desk.pencil(0, 4, PartSongDesk.TO_SIGN, 2);
            Check.due("a sign where none is printed", () -> bar(desk, 0, 0, 2), "54+ 52+");
            kinds(desk, PartSongDesk.TO_SIGN, 3, 4);
        });
        Check.sentence("TO_TICKS, for a NOTE or a REST: 1, 2, 3, 4, 6, 8, 12, 16 or 24.", CopyEdgeTest::ticks);
        Check.sentence("TO_REST, for a NOTE: 0 a note, 1 a rest as long (a tie of it is none then).", () -> {
            PartSongDesk desk = two("@G#0M1/8 0e~|0s0s");
            values(desk, 3, PartSongDesk.TO_REST, 0, 1);
            desk.pencil(0, 3, PartSongDesk.TO_REST, 1);
            Check.due("a rest as long", () -> bar(desk, 0, 0, 2), "r r");
            Check.due("its tie is none", () -> bar(desk, 0, 1, 2), "52+ 52+");
            desk.pencil(0, 5, PartSongDesk.TO_REST, 1);
            Check.due("two rests", () -> bar(desk, 0, 1, 2), "r 52+");
            desk.pencil(0, 3, PartSongDesk.TO_REST, 0);
            Check.due("a note that is tied to a rest", () -> desk.copyError(0), PartSongDesk.TIE);
            desk.pencil(0, 5, PartSongDesk.TO_REST, 0);
            Check.due("two notes", () -> bar(desk, 0, 0, 2), "52+ 52");
            Check.due("and the tie", () -> bar(desk, 0, 1, 2), "52 52+");
            desk.pencil(0, 6, PartSongDesk.TO_REST, 1);
            Check.due("the last one a rest", () -> bar(desk, 0, 1, 2), "52 r");
            kinds(desk, PartSongDesk.TO_REST, 3, 5, 6);
        });
        Check.sentence("has a kind and a value, which is AS_PRINTED for what is printed", () -> {
            PartSongDesk desk = two("@C#0M1/4 ^1s0sre|");
            String printed = "44+ 41+ r r";
            int[][] marks = {{0, PartSongDesk.TO_CLEF, 0}, {3, PartSongDesk.TO_PLACE, 9}, {3, PartSongDesk.TO_SIGN, 3},
                {3, PartSongDesk.TO_TICKS, 24}, {5, PartSongDesk.TO_TICKS, 24}, {4, PartSongDesk.TO_REST, 1}};
            for (int[] mark : marks) {
                desk.pencil(0, mark[0], mark[1], mark[2]);
                Check.due("changed by the kind " + mark[1], () -> bar(desk, 0, 0, 4).equals(printed), false);
                desk.pencil(0, mark[0], mark[1], PRINTED);
                Check.due("as printed by the kind " + mark[1], () -> bar(desk, 0, 0, 4), printed);
            }
            Check.due("each of them is a correction", () -> desk.back(0), 12);
        });
    }

    private static void ticks() {
        PartSongDesk desk = two("@G#0M4/4 0s|re1h.1e");
        int[] lengths = {1, 2, 3, 4, 6, 8, 12, 16, 24};
        int next = 0;
        for (int value = -1; value <= 26; value++) {
            int v = value;
            boolean is = next < lengths.length && lengths[next] == value;
            Check.due("a note of the ticks " + v, () -> desk.pencil(0, 3, PartSongDesk.TO_TICKS, v), is ? next : Check.ARGUMENT);
            if (!is) {
                continue;
            }
            next++;
            if (value <= 16) {
                Check.due("it begins", () -> desk.begins(0, 0, 16 - v), true);
                Check.due("a rest ahead", () -> v == 16 || desk.copyPitch(0, 0, 15 - v) == PartSongDesk.SILENCE, true);
            } else {
                Check.due("it is too long", () -> desk.copyError(0), PartSongDesk.LONG);
            }
        }
        desk.pencil(0, 3, PartSongDesk.TO_TICKS, 8);
        for (int length : lengths) {
            desk.pencil(0, 5, PartSongDesk.TO_TICKS, length);
            Check.due("a rest of the ticks " + length, () -> desk.copyError(0), length < 2 ? PartSongDesk.SHORT : length == 2 ? PartSongDesk.RIGHT : PartSongDesk.LONG);
        }
        for (int bad : new int[] {0, 5, 7, 9, 10, 11, 13, 15, 17, 20, 23, 25, 48, 99, 101, Integer.MIN_VALUE, Integer.MAX_VALUE}) {
            Check.due("a rest of the ticks " + bad, () -> desk.pencil(0, 5, PartSongDesk.TO_TICKS, bad), Check.ARGUMENT);
        }
        kinds(desk, PartSongDesk.TO_TICKS, 3, 5, 6, 7);
    }

    /** The least and the greatest value of a kind, those just outside, and AS_PRINTED, at a token that it is for. */
    private static void values(PartSongDesk desk, int token, int kind, int least, int greatest) {
        for (int bad : new int[] {least - 1, greatest + 1, 99, 101, Integer.MIN_VALUE, Integer.MAX_VALUE}) {
            Check.due("the kind " + kind + " with " + bad, () -> desk.pencil(0, token, kind, bad), Check.ARGUMENT);
        }
        Check.due("the least one", () -> desk.pencil(0, token, kind, least), 0);
        Check.due("the greatest one", () -> desk.pencil(0, token, kind, greatest), 1);
        Check.due("AS_PRINTED", () -> desk.pencil(0, token, kind, PRINTED), 2);
    }

    /** At which tokens a kind of correction can be pencilled. */
    private static void kinds(PartSongDesk desk, int kind, int... tokens) {
        for (int token = 0; token < desk.tokens(0, 0); token++) {
            int t = token;
            boolean fits = false;
            for (int one : tokens) {
                fits |= one == t;
            }
            Check.due("the kind " + kind + " at the token " + t, () -> Check.answer(() -> desk.pencil(1, t, kind, PRINTED)).equals(Check.STATE), !fits);
        }
    }

    private static void sets() {
        Check.sentence("Each copy, and the library for each part, has a set of corrections, none at first.", () -> {
            PartSongDesk desk = Check.with(H + "0h|");
            Check.write(desk, 0, 1, H + "0h|");
            desk.print(0, 0);
            desk.print(0, 1);
            Check.due("none in the library", () -> desk.lend(0, 0), 0);
            Check.due("none in the copy", () -> desk.back(0), 0);
            desk.lend(0, 0);
            desk.pencil(0, 3, PartSongDesk.TO_PLACE, 1);
            desk.back(0);
            Check.due("none for another part", () -> desk.lend(1, 1), 0);
            desk.print(0, 0);
            Check.due("none in a new copy", () -> desk.copyPitch(2, 0, 0), 52);
        });
        Check.sentence("With such a set, a token is as the correction with the greatest number for it and its kind tells, for each kind.", () -> {
            PartSongDesk desk = two("@G#0M1/8 0e|0e|");
            desk.pencil(1, 3, PartSongDesk.TO_PLACE, 1);
            desk.pencil(0, 3, PartSongDesk.TO_PLACE, 2);
            desk.pencil(0, 3, PartSongDesk.TO_SIGN, 1);
            desk.pencil(0, 5, PartSongDesk.TO_PLACE, 3);
            Check.due("another kind and another token leave it as it is", () -> bar(desk, 0, 0, 2), "56+ 56");
            Check.due("another token", () -> bar(desk, 0, 1, 2), "57+ 57");
            desk.back(0);
            desk.back(1);
            Check.due("a lower number that comes later", () -> desk.pitch(0, 0, 0, 0), 56);
            desk.lend(0, 0);
            desk.pencil(0, 3, PartSongDesk.TO_PLACE, PRINTED);
            Check.due("the greatest one tells what is printed", () -> bar(desk, 0, 0, 2), "53+ 53");
        });
        Check.sentence("The music of a copy is the text of its part with its set; that of the library is with the set of the library.", () -> {
            PartSongDesk desk = two("@G#0M1/8 0e|");
            desk.pencil(0, 3, PartSongDesk.TO_PLACE, 1);
            Check.due("the copy", () -> desk.copyPitch(0, 0, 0), 53);
            Check.due("the other copy", () -> desk.copyPitch(1, 0, 0), 52);
            Check.due("the library", () -> desk.pitch(0, 0, 0, 0), 52);
            desk.back(0);
            Check.due("the library behind that", () -> desk.pitch(0, 0, 0, 0), 53);
            Check.due("the other copy behind that", () -> desk.copyPitch(1, 0, 0), 52);
            Check.due("the text has no error", () -> desk.error(0, 0), PartSongDesk.RIGHT);
        });
        Check.sentence("When a copy is lent, its set becomes that of the library.", () -> {
            PartSongDesk desk = two("@G#0M1/8 0e|");
            desk.pencil(0, 3, PartSongDesk.TO_PLACE, 1);
            desk.pencil(1, 3, PartSongDesk.TO_SIGN, 1);
            desk.back(0);
            desk.back(1);
            Check.due("as it came back", () -> desk.copyPitch(0, 0, 0), 53);
            Check.due("lend", () -> desk.lend(0, 5), 2);
            Check.due("as the library has it", () -> desk.copyPitch(0, 0, 0), 54);
            desk.print(0, 0);
            Check.due("lend a new one", () -> desk.lend(2, 6), 2);
            Check.due("it has both as well", () -> desk.copyPitch(2, 0, 0), 54);
        });
        Check.sentence("When it comes back, the corrections that it has and the library has not come into the set of the library.", () -> {
            PartSongDesk desk = two("@G#0M1/8 0e|");
            Check.due("none of none", () -> desk.back(0), 0);
            desk.lend(0, 0);
            desk.pencil(0, 3, PartSongDesk.TO_PLACE, 1);
            Check.due("one of one", () -> desk.back(0), 1);
            desk.lend(0, 0);
            Check.due("none of one", () -> desk.back(0), 0);
            desk.lend(0, 0);
            desk.pencil(0, 3, PartSongDesk.TO_PLACE, 1);
            Check.due("one of two", () -> desk.back(0), 1);
            Check.due("the other copy", () -> desk.back(1), 0);
            Check.due("all of them", () -> desk.lend(1, 1), 2);
        });
    }

    private static void printed() {
        Check.sentence("IllegalStateException if the text of the part is not RIGHT, or there are 40 copies", () -> {
            String[] wrong = {"", H + "x", "@G", H + "#0", H + "[[[[", H + "[(2:", H + "[", H + "0w", H + "0h|0s", H + "0q~rq", H + "[[[0h|]4]4]4"};
            for (int error = 0; error < wrong.length; error++) {
                PartSongDesk desk = Check.with(wrong[error]);
                int due = error == 0 ? PartSongDesk.HEADER : error;
                Check.due("error", () -> desk.error(0, 0), due);
                Check.due("print what has the error " + due, () -> desk.print(0, 0), Check.STATE);
                Check.due("it has no copy", () -> desk.holder(0), Check.INDEX);
                int length = wrong[error].length();
                Check.due("its text can be written", () -> desk.write(0, 0, ' '), length + 1);
            }
            PartSongDesk empty = Check.with(H);
            Check.due("a part without bars", () -> empty.print(0, 0), 0);
        });
        Check.sentence("Prints a copy of a part, which lies in the library.", () -> {
            PartSongDesk desk = two("@G#0M1/8 0e|");
            desk.pencil(0, 3, PartSongDesk.TO_TICKS, 24);
            desk.back(0);
            Check.due("the library's music is LONG", () -> desk.bars(0, 0), PartSongDesk.NONE);
            Check.due("the text is RIGHT, and is printed", () -> desk.print(0, 0), 2);
            Check.due("it lies there", () -> desk.holder(2), PartSongDesk.NONE);
            Check.due("as printed", () -> desk.copyError(2), PartSongDesk.RIGHT);
            Check.due("no bars in the library", () -> desk.pitch(0, 0, 0, 0), Check.INDEX);
        });
    }

    private static void lentAndBack() {
        Check.sentence("the singers 0 to 11", () -> {
            PartSongDesk desk = Check.with(H);
            for (int singer = 0; singer < 12; singer++) {
                int s = singer;
                desk.print(0, 0);
                Check.due("lend to the singer " + s, () -> desk.lend(s, s), 0);
                Check.due("holder", () -> desk.holder(s), s);
            }
            desk.print(0, 0);
            for (int bad : new int[] {-1, 12, 13, Integer.MIN_VALUE, Integer.MAX_VALUE}) {
                Check.due("lend to a singer " + bad, () -> desk.lend(12, bad), Check.INDEX);
                Check.due("lend what is lent to a singer " + bad, () -> desk.lend(0, bad), Check.INDEX);
            }
        });
        Check.sentence("IllegalStateException if it is lent, or the singer has a copy of the same piece", () -> {
            PartSongDesk desk = two(H);
            for (int part : new int[] {3, 4, 11}) {
                Check.write(desk, part / 4, part % 4, H);
                desk.print(part / 4, part % 4);
            }
            desk.print(0, 0);
            Check.due("lent to the same singer", () -> desk.lend(0, 0), Check.STATE);
            Check.due("lent to another singer", () -> desk.lend(0, 2), Check.STATE);
            Check.due("the same part", () -> desk.lend(5, 0), Check.STATE);
            Check.due("the last voice of the piece", () -> desk.lend(2, 0), Check.STATE);
            Check.due("the first voice of the next piece", () -> desk.lend(3, 0), 0);
            Check.due("the last voice of the last piece", () -> desk.lend(4, 0), 0);
            Check.due("the refused ones lie there", () -> desk.holder(5), PartSongDesk.NONE);
            desk.back(0);
            Check.due("it is back, and another one can be lent", () -> desk.lend(5, 0), 0);
            Check.due("but not both", () -> desk.lend(0, 0), Check.STATE);
        });
        Check.sentence("Returns how many corrections it has then.", () -> {
            PartSongDesk desk = two("@G#0M1/8 0e|");
            desk.pencil(0, 3, PartSongDesk.TO_PLACE, 1);
            desk.pencil(0, 3, PartSongDesk.TO_PLACE, PRINTED);
            desk.back(0);
            Check.due("two for one token", () -> desk.lend(0, 0), 2);
            Check.due("none came with the other one", () -> desk.back(1), 0);
            Check.due("two", () -> desk.lend(1, 1), 2);
        });
        Check.sentence("IllegalStateException if it is not lent", () -> {
            PartSongDesk desk = Check.with(H);
            desk.print(0, 0);
            Check.due("never lent", () -> desk.back(0), Check.STATE);
            desk.lend(0, 3);
            Check.due("lent", () -> desk.back(0), 0);
            Check.due("back already", () -> desk.back(0), Check.STATE);
            Check.due("no such copy", () -> desk.back(1), Check.INDEX);
        });
    }

    private static void pencilled() {
        Check.sentence("IllegalArgumentException if kind is none of these, or value none of those for it", () -> {
            PartSongDesk desk = two(H + "0h|");
            for (int bad : new int[] {-1, 5, 6, 100, Integer.MIN_VALUE, Integer.MAX_VALUE}) {
                Check.due("the kind " + bad, () -> desk.pencil(0, 3, bad, 1), Check.ARGUMENT);
                Check.due("the kind " + bad + " as printed", () -> desk.pencil(0, 3, bad, PRINTED), Check.ARGUMENT);
                Check.due("the kind " + bad + " at no token", () -> desk.pencil(0, 5, bad, 1), Check.INDEX);
            }
            Check.due("a value of another kind", () -> desk.pencil(0, 3, PartSongDesk.TO_REST, 2), Check.ARGUMENT);
            Check.due("a value of none, at a token of another kind", () -> desk.pencil(0, 0, PartSongDesk.TO_REST, 2), Check.ARGUMENT);
            Check.due("nothing was pencilled", () -> desk.pencil(0, 3, PartSongDesk.TO_REST, 1), 0);
        });
        Check.sentence("IllegalStateException if the copy is not lent, the kind is not for such a token as it is printed, or there are 200 corrections", () -> {
            PartSongDesk desk = two(H + "0h|");
            desk.print(0, 0);
            Check.due("a copy that was never lent", () -> desk.pencil(2, 3, PartSongDesk.TO_PLACE, 1), Check.STATE);
            desk.pencil(0, 3, PartSongDesk.TO_REST, 1);
            Check.due("a rest that is printed as a note", () -> desk.pencil(0, 3, PartSongDesk.TO_PLACE, 1), 1);
            Check.due("the same", () -> desk.pencil(0, 3, PartSongDesk.TO_TICKS, 8), 2);
            Check.due("a note again", () -> desk.pencil(0, 3, PartSongDesk.TO_REST, 0), 3);
            Check.due("with its place", () -> desk.copyPitch(0, 0, 0), 53);
            desk.back(0);
            Check.due("a copy that came back", () -> desk.pencil(0, 3, PartSongDesk.TO_PLACE, 1), Check.STATE);
            Check.due("the number behind that", () -> desk.pencil(1, 3, PartSongDesk.TO_PLACE, 1), 4);
            PartSongDesk all = two("@G#0M2/4 0h|rh|[@C(1:)(2:)]2");
            kinds(all, PartSongDesk.TO_CLEF, 0, 8);
            kinds(all, PartSongDesk.TO_PLACE, 3);
            kinds(all, PartSongDesk.TO_SIGN, 3);
            kinds(all, PartSongDesk.TO_TICKS, 3, 5);
            kinds(all, PartSongDesk.TO_REST, 3);
            Check.due("those that were pencilled", () -> all.back(1), 7);
        });
    }

    private static void asked() {
        Check.sentence("Returns RIGHT, or LONG, SHORT, TIE or MANY.", () -> {
            PartSongDesk desk = two(H + "0q~0q|0h|");
            Check.due("RIGHT", () -> desk.copyError(0), PartSongDesk.RIGHT);
            desk.pencil(0, 6, PartSongDesk.TO_TICKS, 12);
            Check.due("LONG", () -> desk.copyError(0), PartSongDesk.LONG);
            desk.pencil(0, 6, PartSongDesk.TO_TICKS, 6);
            Check.due("SHORT", () -> desk.copyError(0), PartSongDesk.SHORT);
            desk.pencil(0, 4, PartSongDesk.TO_PLACE, 1);
            Check.due("TIE, ahead of it", () -> desk.copyError(0), PartSongDesk.TIE);
            desk.pencil(0, 4, PartSongDesk.TO_TICKS, 1);
            desk.pencil(0, 4, PartSongDesk.TO_PLACE, 0);
            Check.due("SHORT", () -> desk.copyError(0), PartSongDesk.SHORT);
            desk.pencil(0, 6, PartSongDesk.TO_TICKS, PRINTED);
            Check.due("the first bar may be SHORT", () -> desk.copyError(0), PartSongDesk.RIGHT);
            Check.due("the other copy", () -> desk.copyError(1), PartSongDesk.RIGHT);
        });
        Check.sentence("IndexOutOfBoundsException if there is no such copy, bar or tick", () -> {
            PartSongDesk desk = two(FORTY);
            int[][] good = {{0, 0, 52}, {0, 15, 52}, {39, 0, 53}, {39, 15, 55}};
            for (int[] at : good) {
                Check.due("copyPitch", () -> desk.copyPitch(1, at[0], at[1]), at[2]);
                Check.due("copyPitchAnew", () -> desk.copyPitchAnew(1, at[0], at[1]), at[2]);
                Check.due("begins", () -> desk.begins(1, at[0], at[1]), at[1] == 0);
            }
            int[][] bad = {{-1, 0, 0}, {2, 0, 0}, {0, -1, 0}, {0, 40, 0}, {0, 0, -1}, {0, 0, 16}, {0, 39, 16}, {0, 40, 16}, {2, 40, 16},
                {Integer.MIN_VALUE, 0, 0}, {Integer.MAX_VALUE, 0, 0}, {0, Integer.MIN_VALUE, 0}, {0, Integer.MAX_VALUE, 0},
                {0, 0, Integer.MIN_VALUE}, {0, 0, Integer.MAX_VALUE}};
            for (int[] at : bad) {
                Check.due("copyPitch", () -> desk.copyPitch(at[0], at[1], at[2]), Check.INDEX);
                Check.due("copyPitchAnew", () -> desk.copyPitchAnew(at[0], at[1], at[2]), Check.INDEX);
                Check.due("begins", () -> desk.begins(at[0], at[1], at[2]), Check.INDEX);
            }
            PartSongDesk least = two("@G#0M1/8 0s");
            Check.due("the tick 1 of 2", () -> least.copyPitch(0, 0, 1), 52);
            Check.due("the tick 2 of 2", () -> least.copyPitch(0, 0, 2), Check.INDEX);
            Check.due("the bar 1 of 1", () -> least.copyPitchAnew(0, 1, 0), Check.INDEX);
            least.pencil(0, 3, PartSongDesk.TO_TICKS, 3);
            Check.due("no bars of what is LONG", () -> least.copyPitch(0, 0, 0), Check.INDEX);
            Check.due("nor anew", () -> least.copyPitchAnew(0, 0, 0), Check.INDEX);
            Check.due("nor begins one", () -> least.begins(0, 0, 0), Check.INDEX);
            PartSongDesk none = two(H);
            Check.due("the bar 0 of none", () -> none.copyPitch(0, 0, 0), Check.INDEX);
        });
        Check.sentence("at each tick a NOTE begins in both or in neither (one that is tied to does not begin)", () -> {
            PartSongDesk desk = two("@G#0M4/4 0h~0q.0s~0s|0w~|0w");
            Check.due("the first bar", () -> bar(desk, 0, 0, 16), "52+" + " 52".repeat(7) + " 52" + " 52".repeat(5) + " 52+ 52");
            Check.due("the second bar", () -> bar(desk, 0, 1, 16), "52+" + " 52".repeat(15));
            Check.due("the third bar", () -> bar(desk, 0, 2, 16), "52" + " 52".repeat(15));
            desk.pencil(1, 8, PartSongDesk.TO_REST, 1);
            Check.due("the third bar begins", () -> desk.begins(1, 2, 0), true);
            Check.due("it is not alike by that alone", () -> desk.differ(0, 1), 2);
        });
        Check.sentence("Returns in how many bars two copies of one part are not alike, a bar that one of them has and the other one has not included.", () -> {
            PartSongDesk desk = two("@G#0M1/8 [[[0e|]4]3]3[1e|]4");
            Check.due("none", () -> desk.differ(0, 1), 0);
            Check.due("none of itself", () -> desk.differ(1, 1), 0);
            desk.pencil(0, 12, PartSongDesk.TO_PLACE, 4);
            Check.due("the last four", () -> desk.differ(0, 1), 4);
            desk.pencil(1, 6, PartSongDesk.TO_PLACE, 4);
            Check.due("all forty", () -> desk.differ(1, 0), 40);
            desk.pencil(1, 12, PartSongDesk.TO_PLACE, 4);
            Check.due("but the last four", () -> desk.differ(0, 1), 36);
            PartSongDesk late = two("@G#0M4/4 0h0h|0h0h|");
            late.pencil(0, 4, PartSongDesk.TO_PLACE, 9);
            Check.due("in the second half of a bar", () -> late.differ(0, 1), 1);
            Check.due("the other way round", () -> late.differ(1, 0), 1);
            late.pencil(0, 7, PartSongDesk.TO_REST, 1);
            Check.due("in that of both bars", () -> late.differ(0, 1), 2);
            Check.due("the other way round", () -> late.differ(1, 0), 2);
            PartSongDesk none = two(H);
            Check.due("no bars", () -> none.differ(0, 1), 0);
        });
        Check.sentence("IllegalStateException if one of them is not RIGHT", () -> {
            PartSongDesk desk = two("@G#0M1/8 0e|");
            Check.write(desk, 0, 1, "@G#0M1/8 0e|");
            desk.print(0, 1);
            desk.pencil(0, 3, PartSongDesk.TO_TICKS, 3);
            Check.due("the first one", () -> desk.differ(0, 1), Check.STATE);
            Check.due("the second one", () -> desk.differ(1, 0), Check.STATE);
            Check.due("both", () -> desk.differ(0, 0), Check.STATE);
            Check.due("of unlike parts", () -> desk.differ(0, 2), Check.ARGUMENT);
            Check.due("of unlike parts", () -> desk.differ(2, 0), Check.ARGUMENT);
            Check.due("and no such copy", () -> desk.differ(0, 3), Check.INDEX);
            Check.due("and no such copy", () -> desk.differ(-1, 0), Check.INDEX);
            desk.pencil(0, 3, PartSongDesk.TO_TICKS, 2);
            Check.due("RIGHT again", () -> desk.differ(0, 1), 0);
        });
    }
}
