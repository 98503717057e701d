/** Promises 4, 5 and 8 to 10: parts as they are sung, bar by bar. */
public final class SungTest {
    private static final String H = "@G#0M2/4";
    private static final String BARS_36 = "[[[0h|]4]3]3";

    public static void main(String[] args) {
        clefsAndSteps();
        keys();
        signs();
        tiedChanges();
        lengths();
        repeats();
        longAndShort();
        ties();
        many();
        bars();
        pitch();
        seconds();
        Check.end("SungTest");
    }

    private static void clefsAndSteps() {
        Check.sung("@G#0M1/8 0e|", "52 52");
        Check.sung("@F#0M1/8 0e|", "31 31");
        Check.sung("@C#0M1/8 0e|", "41 41");
        Check.sung("@C#0M1/8 -3s-2s|-1s0s|1s2s|3s4s|", "36 38 | 40 41 | 43 45 | 47 48");
        Check.sung("@F#0M1/8 -9s-8s|", "16 17");
        Check.sung("@G#0M1/8 19s18s|", "84 83");
        Check.sung("@F#0M1/8 _-9s-08s|", "15 17");
        Check.sung("@G#0M1/8 ^19s@C05s|0s@F-0s|", "85 50 | 41 31");
        Check.sung("@G#0M1/8 0s@F@C0s|", "52 41");
    }

    /** The pitches of E, F, G, A, B, C, D, from the place 0 with G on, for each key. */
    private static void keys() {
        String[] sharps = {"EFGABCD", "EfGABCD", "EfGABcD", "EfgABcD", "EfgABcd", "EfgaBcd", "efgaBcd", "efgabcd"};
        String[] flats = {"EFGABCD", "EFGAbCD", "eFGAbCD", "eFGabCD", "eFGabCd", "eFgabCd", "eFgabcd", "efgabcd"};
        int[] natural = {52, 53, 55, 57, 59, 60, 62};
        for (int many = 0; many <= 7; many++) {
            for (int letter = 0; letter < 7; letter++) {
                int sharp = natural[letter] + (Character.isLowerCase(sharps[many].charAt(letter)) ? 1 : 0);
                int flat = natural[letter] - (Character.isLowerCase(flats[many].charAt(letter)) ? 1 : 0);
                Check.sung("@G#" + many + "M1/8 " + letter + "e|", sharp + " " + sharp);
                Check.sung("@Gb" + many + "M1/8 " + letter + "e|", flat + " " + flat);
                Check.sung("@Gb" + many + "M1/8 " + (letter + 7) + "e|", flat + 12 + " " + (flat + 12));
            }
        }
    }

    private static void signs() {
        Check.sung("@G#0M2/8 ^1s1s1s1s|1e_1s1s|", "54 54 54 54 | 53 53 52 52");
        Check.sung("@G#1M2/8 1s=1s1s^1s|1s_1s=1s1s|", "54 53 53 54 | 54 52 53 53");
        Check.sung("@G#0M2/8 ^1e8s1s|", "54 54 65 54");
        Check.sung("@G#0M2/8 ^1e8s=8s|1s8s^8s1s|", "54 54 65 65 | 53 65 66 53");
        Check.sung("@G#0M2/8 ^1s@C7s7e|", "54 54 54 54");
        Check.sung("@Gb1M2/8 4s=4s4s_4s|^4s4s4e|", "58 59 59 58 | 60 60 60 60");
        Check.sung("@G#0M1/8 ^19s19s|19s_19s|", "85 85 | 84 83");
        Check.sung("@F#0M1/8 _-9s-9s|-9s^-9s|", "15 15 | 16 17");
        Check.sung("@G#0M1/8 [1s^1s|]2", "53 54 | 53 54");
        Check.sung("@G#0M1/4 ^1e[1e|1e]2 1e|", "54 54 54 54 | 53 53 53 53 | 53 53 53 53");
        Check.sung("@G#0M1/4 [1s|1s^1e]2 1s|", "r r r 53 | 53 54 54 54 | 53 54 54 54");
    }

    private static void tiedChanges() {
        Check.sung("@G#0M1/8 ^1e~|1s1s|", "54 54 | 54 53");
        Check.sung("@G#0M1/8 ^1e~|^1s1s|", "54 54 | 54 54");
        Check.sung("@G#0M1/8 ^1e~|1e~|1s1s|", "54 54 | 54 54 | 54 53");
        Check.sung("@G#0M1/8 _1s~1s|1e|", "52 52 | 53 53");
        Check.sung("@G#1M1/8 =1e~|1s1s|", "53 53 | 53 54");
        Check.sung("@G#1M1/8 =1e~|=1s1s|", "53 53 | 53 53");
        Check.sung("@G#0M2/8 ^1s1s~1s_8s|_1s1s1s8s|", "54 54 54 64 | 52 52 52 65");
    }

    private static void lengths() {
        Check.sung("@G#0M4/4 0w|", "52 ".repeat(16).trim());
        Check.sung("@G#0M3/4 0h.|", "52 ".repeat(12).trim());
        Check.sung("@G#0M6/8 0q.rq.|", "52 52 52 52 52 52 r r r r r r");
        Check.sung("@G#0M3/8 0e.1s2e|", "52 52 52 53 55 55");
        Check.sung("@G#0M3/8 0qre|rq0e|", "52 52 52 52 r r | r r r r 52 52");
        Check.sung("@G#0M2/4 rs0s|0h|", "r r r r r r r 52 | 52 52 52 52 52 52 52 52");
        Check.sung("@G#0M2/4 0s1q.", "r 52 53 53 53 53 53 53");
        Check.sung("@G#0M1/8 rs|", "r r");
        Check.right("@G#0M1/8 0e|0e", 2);
    }

    private static void repeats() {
        Check.sung("@G#0M1/8 [0e|]2", "52 52 | 52 52");
        Check.sung("@G#0M1/8 [0e|]4 1e|", "52 52 | 52 52 | 52 52 | 52 52 | 53 53");
        Check.sung("@G#0M1/8 [0e|(1:1e|)(2:2e|)(3:)]3", "52 52 | 53 53 | 52 52 | 55 55 | 52 52");
        Check.sung("@G#0M1/8 [[0e|]2 1e|(1:2e|)(2:)]2", "52 52 | 52 52 | 53 53 | 55 55 | 52 52 | 52 52 | 53 53");
        Check.sung("@G#0M1/8 [0e|(1:@F0e|)(2:0e|)]2 0e|", "52 52 | 31 31 | 52 52 | 31 31 | 31 31");
        Check.sung("@G#0M1/8 [0e|@F]2 0e|", "52 52 | 52 52 | 31 31");
        Check.sung("@G#0M1/8 [[0e|(1:1e|)(2:)]2(1:2e|)(2:3e|)]2", "52 52 | 53 53 | 52 52 | 55 55 | 52 52 | 53 53 | 52 52 | 57 57");
        Check.sung("@G#0M1/8 [0s]2", "52 52");
        Check.right("@G#0M1/8 [[[0e|]2]3]4", 24);
        Check.right("@G#0M1/8 [[[@G@F@C]4]4]4", 0);
    }

    private static void longAndShort() {
        Check.error(H + "0w", PartSongDesk.LONG, 8);
        Check.error(H + "0h.", PartSongDesk.LONG, 8);
        Check.error(H + "0h 0s|", PartSongDesk.LONG, 11);
        Check.error(H + "0h|0q.rq|", PartSongDesk.LONG, 14);
        Check.error(H + "[0q]3|", PartSongDesk.LONG, 9);
        Check.error(H + "|", PartSongDesk.SHORT, 8);
        Check.error(H + "@F|", PartSongDesk.SHORT, 10);
        Check.right(H + "0s|", 1);
        Check.right(H + "0q", 1);
        Check.right(H + "0h", 1);
        Check.error(H + "0s|0q|", PartSongDesk.SHORT, 13);
        Check.error(H + "0h||", PartSongDesk.SHORT, 11);
        Check.error(H + "0h|@C|", PartSongDesk.SHORT, 13);
        Check.error(H + "0h|0q.re.|", PartSongDesk.LONG, 14);
        Check.error(H + "0h|0q.rs|", PartSongDesk.SHORT, 16);
        Check.error(H + "0h|0q", PartSongDesk.SHORT, 13);
        Check.error(H + "0h|0q  ", PartSongDesk.SHORT, 15);
        Check.error(H + "[0q|]2", PartSongDesk.SHORT, 11);
        Check.error(H + "[0h|(1:|)(2:)]2", PartSongDesk.SHORT, 15);
        Check.right(H + "[0q|0q]2 0q|", 3);
        Check.error("@G#0M1/8 0w|", PartSongDesk.LONG, 9);
    }

    private static void ties() {
        Check.right(H + "0q~0q|", 1);
        Check.right(H + "0h~|0h|", 2);
        Check.right(H + "0h~ |@C 6h|", 2);
        Check.right(H + "[0h~|]2 0h|", 3);
        Check.right(H + "[0h~|(1:0h|)(2:@C6h|)]2", 4);
        Check.error(H + "0q~1q|", PartSongDesk.TIE, 8);
        Check.error(H + "0q~7q|", PartSongDesk.TIE, 8);
        Check.error(H + "0q~rq|", PartSongDesk.TIE, 8);
        Check.error(H + " 0q~", PartSongDesk.TIE, 9);
        Check.error(H + "0h~|", PartSongDesk.TIE, 8);
        Check.error(H + "0h|0q~", PartSongDesk.TIE, 11);
        Check.error(H + "0h|0q~|0h", PartSongDesk.SHORT, 14);
        Check.error(H + "[0h~|]2", PartSongDesk.TIE, 9);
        Check.error(H + "0h~|[0h|]2[0h~|1h|]2", PartSongDesk.TIE, 19);
        Check.error(H + "0h~|0w|", PartSongDesk.LONG, 12);
        Check.error(H + "0h~|1w|", PartSongDesk.TIE, 8);
        Check.error(H + "0h~|rw|", PartSongDesk.TIE, 8);
        Check.error(H + "0h~|^0w|", PartSongDesk.TIE, 8);
        Check.right(H + "^0q~^0q|", 1);
        Check.right(H + "^0q~0q|", 1);
        Check.right(H + "0q~=0q|", 1);
        Check.error(H + "^0q~=0q|", PartSongDesk.TIE, 8);
        Check.error(H + "^0q~_0q|", PartSongDesk.TIE, 8);
        Check.error(H + "0q~^0q|", PartSongDesk.TIE, 8);
        Check.error(H + "^0q~1q|", PartSongDesk.TIE, 8);
        Check.error(H + "^0q~=1q|", PartSongDesk.TIE, 8);
        Check.error(H + "0q~_1q|", PartSongDesk.TIE, 8);
        Check.error("@G#1M2/4 1q~=1q|", PartSongDesk.TIE, 8 + 1);
        Check.right("@G#1M2/4 1q~^1q|", 1);
    }

    private static void many() {
        Check.right(H + BARS_36 + "[0h|]4", 40);
        Check.right(H + BARS_36 + "[0h|]3 0h", 40);
        int at = 8 + BARS_36.length() + 6;
        Check.error(H + BARS_36 + "[0h|]4 0h|0h|", PartSongDesk.MANY, at + 3);
        Check.error(H + BARS_36 + "[0h|]4 0h ", PartSongDesk.MANY, at + 4);
        Check.error(H + BARS_36 + "[0h|]4 0q", PartSongDesk.SHORT, at + 3);
        Check.error(H + BARS_36 + "[0h|]4 0q|", PartSongDesk.SHORT, at + 3);
        Check.error(H + BARS_36 + "[0h|]4 |", PartSongDesk.SHORT, at + 1);
        Check.error(H + BARS_36 + "[0h|]4 0h~|1h", PartSongDesk.MANY, at + 4);
        Check.error(H + BARS_36 + "[0h|]4 0h~", PartSongDesk.TIE, at + 1);
        Check.error(H + BARS_36 + "[0h|]4 0hrs", PartSongDesk.LONG, at + 3);
        Check.error(H + "[[[0h|]4]4]4", PartSongDesk.MANY, 13);
    }

    private static void bars() {
        PartSongDesk desk = Check.with(H + "0h|0h|");
        Check.due("bars", () -> desk.bars(0, 0), 2);
        Check.due("bars of an empty text", () -> desk.bars(0, 1), PartSongDesk.NONE);
        Check.due("bars of a piece 3", () -> desk.bars(3, 0), Check.INDEX);
        Check.due("bars of a piece -1", () -> desk.bars(-1, 0), Check.INDEX);
        Check.due("bars of a voice 4", () -> desk.bars(0, 4), Check.INDEX);
        Check.due("bars of a voice -1", () -> desk.bars(1, -1), Check.INDEX);
        Check.write(desk, 0, 0, "0s");
        Check.due("bars of a part that is SHORT", () -> desk.bars(0, 0), PartSongDesk.NONE);
        Check.write(desk, 2, 3, H);
        Check.due("no bars", () -> desk.bars(2, 3), 0);
    }

    private static void pitch() {
        PartSongDesk desk = Check.with(H + "0qrq|1h|");
        Check.due("pitch", () -> desk.pitch(0, 0, 0, 0), 52);
        Check.due("pitch", () -> desk.pitch(0, 0, 0, 3), 52);
        Check.due("pitch of a rest", () -> desk.pitch(0, 0, 0, 4), PartSongDesk.SILENCE);
        Check.due("pitch", () -> desk.pitch(0, 0, 1, 7), 53);
        for (int bad : new int[] {-1, 2, 40, Integer.MAX_VALUE, Integer.MIN_VALUE}) {
            Check.due("pitch of the bar " + bad, () -> desk.pitch(0, 0, bad, 0), Check.INDEX);
        }
        for (int bad : new int[] {-1, 8, 16, Integer.MAX_VALUE, Integer.MIN_VALUE}) {
            Check.due("pitch of the tick " + bad, () -> desk.pitch(0, 0, 0, bad), Check.INDEX);
        }
        Check.due("pitch of a voice 4", () -> desk.pitch(0, 4, 0, 0), Check.INDEX);
        Check.due("pitch of a piece 3", () -> desk.pitch(3, 0, 0, 0), Check.INDEX);
        Check.due("pitch of an empty text", () -> desk.pitch(0, 1, 0, 0), Check.INDEX);
        Check.write(desk, 0, 0, "0w");
        Check.due("pitch of a part that is LONG", () -> desk.pitch(0, 0, 0, 0), Check.INDEX);
    }

    private static void seconds() {
        PartSongDesk desk = Check.with("@G#0M3/4 0q|0h.|0h.|");
        Check.due("seconds at 60", () -> desk.seconds(0, 0, 60), 9f);
        Check.due("seconds at 20", () -> desk.seconds(0, 0, 20), 27f);
        Check.due("seconds at 300", () -> desk.seconds(0, 0, 300), 1.8f);
        Check.due("seconds at 77", () -> desk.seconds(0, 0, 77), 540f / 77f);
        Check.due("seconds at 19", () -> desk.seconds(0, 0, 19), Check.ARGUMENT);
        Check.due("seconds at 301", () -> desk.seconds(0, 0, 301), Check.ARGUMENT);
        Check.due("seconds at 0", () -> desk.seconds(0, 0, 0), Check.ARGUMENT);
        Check.due("seconds at -60", () -> desk.seconds(0, 0, -60), Check.ARGUMENT);
        Check.due("seconds of a piece 3", () -> desk.seconds(3, 0, 0), Check.INDEX);
        Check.due("seconds of a voice 4", () -> desk.seconds(0, 4, 0), Check.INDEX);
        Check.due("seconds of a part that is not right", () -> desk.seconds(0, 1, 60), -1f);
        Check.due("seconds of a part that is not right at 0", () -> desk.seconds(0, 1, 0), Check.ARGUMENT);
        Check.write(desk, 1, 0, H);
        Check.due("seconds of no bars", () -> desk.seconds(1, 0, 60), 0f);
    }
}
