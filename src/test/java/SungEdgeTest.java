/** Each sentence of "As it is sung" and the promises 8 to 10 that names a boundary, with a test of its own. */
public final class SungEdgeTest {
    private static final String H = "@G#0M2/4";
    private static final int AT = 8;
    /** 36 bars in 16 characters. */
    private static final String BARS_36 = "[[[0h|]4]3]3    ";

    public static void main(String[] args) {
        repeats();
        pitches();
        changes();
        ties();
        bars();
        longAndShort();
        tieErrors();
        many();
        promises();
        Check.end("SungEdgeTest");
    }

    private static void repeats() {
        Check.sentence("A repeat is sung as many times as its CLOSE tells", () -> {
            Check.sung("@G#0M1/8 [0e|]2 1e", "52 52 | 52 52 | 53 53");
            Check.sung("@G#0M1/8 [0e|]3 1e", "52 52 | 52 52 | 52 52 | 53 53");
            Check.sung("@G#0M1/8 [0e|]4 1e", "52 52 | 52 52 | 52 52 | 52 52 | 53 53");
            Check.right(H + "[]4[[]4]4[[[]4]4]4", 0);
            Check.right(H + "[[[0h|]2]2]2", 8);
            Check.right(H + "[[[0h|]2]3]4", 24);
            Check.right(H + "[0h|[0h|[0h|]3]2]2", 18);
        });
        Check.sentence("each time its body, and behind that, if it has endings, the ending with the number of that time", () -> {
            Check.sung("@G#0M1/8 [0e|(1:1e|)(2:2e|)]2 4e", "52 52 | 53 53 | 52 52 | 55 55 | 59 59");
            Check.sung("@G#0M1/8 [0e|(1:1e|)(2:2e|)(3:3e|)]3", "52 52 | 53 53 | 52 52 | 55 55 | 52 52 | 57 57");
            Check.sung("@G#0M1/8 [(1:1e|)(2:2e|)(3:3e|)(4:4e|)]4", "53 53 | 55 55 | 57 57 | 59 59");
            Check.sung("@G#0M1/8 [(1:)(2:2e|)(3:)(4:4e|)]4", "55 55 | 59 59");
            Check.sung("@G#0M1/8 [(1:1e|)(2:)]2", "53 53");
            // the inner one counts its own times, each time anew
            Check.sung("@G#0M1/8 [[(1:0e|)(2:1e|)]2(1:2e|)(2:3e|)]2", "52 52 | 53 53 | 55 55 | 52 52 | 53 53 | 57 57");
            Check.sung("@G#0M1/8 [[[0s]2|]2(1:)(2:3e|)]2", "52 52 | 52 52 | 52 52 | 52 52 | 57 57");
        });
    }

    private static void pitches() {
        Check.sentence("The clef of a NOTE is the last CLEF ahead of it in the text (not as it is sung).", () -> {
            Check.sung("@G#0M1/8 0e|@F0e|@C0e|", "52 52 | 31 31 | 41 41");
            Check.sung("@G#0M1/8 @F@C@F0e|", "31 31");
            Check.sung("@G#0M1/8 [0e|@F]2 0e|", "52 52 | 52 52 | 31 31");
            Check.sung("@G#0M1/8 [(1:@F0e|)(2:0e|@C)]2 0e|", "31 31 | 31 31 | 41 41");
            Check.sung("@G#0M1/8 [(1:@F)(2:)]2 0e|", "31 31");
        });
        Check.sentence("The place 0 is the step 30 with G, 18 with F, 24 with C; the step of a NOTE is its place more than that.", () -> {
            Check.sung("@G#0M1/8 0e|-9e|19e|", "52 52 | 36 36 | 84 84");
            Check.sung("@F#0M1/8 0e|-9e|19e|", "31 31 | 16 16 | 64 64");
            Check.sung("@C#0M1/8 0e|-9e|19e|", "41 41 | 26 26 | 74 74");
        });
        Check.sentence("A step has the letter of what is left when it is divided by 7 (0 is C), and the octave of the quotient.", () -> {
            int[] natural = {0, 2, 4, 5, 7, 9, 11};
            String[] clefs = {"@G", "@F", "@C"};
            int[] steps = {30, 18, 24};
            for (int clef = 0; clef < 3; clef++) {
                for (int place = -9; place <= 19; place++) {
                    int step = steps[clef] + place;
                    int pitch = 12 * (step / 7) + natural[step % 7];
                    Check.sung(clefs[clef] + "#0M1/8 " + place + "s^" + place + "s|_" + place + "s=" + place + "s",
                        pitch + " " + (pitch + 1) + " | " + (pitch - 1) + " " + pitch);
                }
            }
        });
    }

    private static void changes() {
        Check.sentence("with n sharps the first n of F, C, G, D, A, E, B are 1 more, with n flats the first n of B, E, A, D, G, C, F are 1 less; 0", () -> {
            // C to B, from the place 5 on with G: the step 35
            int[] natural = {60, 62, 64, 65, 67, 69, 71};
            String sharps = "FCGDAEB";
            for (int many = 0; many <= 7; many++) {
                for (int letter = 0; letter < 7; letter++) {
                    int which = sharps.indexOf("CDEFGAB".charAt(letter));
                    int sharp = natural[letter] + (which < many ? 1 : 0);
                    int flat = natural[letter] - (6 - which < many ? 1 : 0);
                    String note = (letter + 5) + "s" + (letter - 2) + "s";
                    Check.sung("@G#" + many + "M1/8 " + note, sharp + " " + (sharp - 12));
                    Check.sung("@Gb" + many + "M1/8 " + note, flat + " " + (flat - 12));
                }
            }
        });
        Check.sentence("that of its own ^ (1), _ (-1) or = (0)", () -> {
            Check.sung("@G#1M1/8 1s^1s|_1s=1s", "54 54 | 52 53");
            Check.sung("@Gb1M1/8 4s^4s|_4s=4s", "58 60 | 58 59");
            Check.sung("@G#0M1/8 ^1s_1s|=1s1s", "54 52 | 53 53");
            Check.sung("@G#7M1/8 ^19s_19s|=19s19s", "85 83 | 84 84");
        });
        Check.sentence("that of the latest NOTE with ^, _ or = on the same step (letter and octave) that was sung since the last BAR", () -> {
            Check.sung("@G#0M1/4 ^1s1s_1s1s|1s=1s^1s1s", "54 54 52 52 | 53 53 54 54");
            Check.sung("@G#0M1/4 ^1s8s-6s1s", "54 65 41 54");
            Check.sung("@G#0M1/4 ^1s2s0s1s", "54 55 52 54");
            Check.sung("@G#0M1/4 ^1s@C7s@F13s@G1s", "54 54 54 54");
            Check.sung("@G#1M1/4 =1s1s8s1s|1s8s=8s8s", "53 53 66 53 | 54 66 65 65");
            Check.sung("@G#0M1/4 rs^1s[1s]2|1q", "r 54 54 54 | 53 53 53 53");
            Check.sung("@G#0M1/8 [1s^1s|]2", "53 54 | 53 54");
            Check.sung("@G#0M2/8 [1s^1s]2", "53 54 54 54");
            Check.sung("@G#0M1/8 ^19s19s|@F_-9s-9s", "85 85 | 15 15");
        });
        Check.sentence("The change of a NOTE is found by the first of these: that of the NOTE that is tied to it", () -> {
            Check.sung("@G#0M1/8 ^1e~|1e|1e", "54 54 | 54 54 | 53 53");
            Check.sung("@G#0M1/8 ^1e~|1e~|1e~|1e|1e", "54 54 | 54 54 | 54 54 | 54 54 | 53 53");
            Check.sung("@Gb1M1/8 =4e~|4s4s", "59 59 | 59 58");
            Check.sung("@G#0M1/8 _1e~|1s^1s|1e", "52 52 | 52 54 | 53 53");
        });
        Check.sentence("A NOTE with ^, _ or = counts for later ones even if it is tied to.", () -> {
            Check.sung("@G#0M1/8 ^1e~|^1s1s|1e", "54 54 | 54 54 | 53 53");
            Check.sung("@G#0M1/8 ^1e~|1s1s|1e", "54 54 | 54 53 | 53 53");
            Check.sung("@G#1M1/8 =1e~|=1s1s|1e", "53 53 | 53 53 | 54 54");
            Check.sung("@G#0M1/8 _1e~|_1s~1s|1e", "52 52 | 52 52 | 53 53");
        });
    }

    private static void ties() {
        Check.sentence("A NOTE with ~ is tied to what is sung next behind it, BARs and CLEFs left aside", () -> {
            Check.right(H + "0q~0q", 1);
            Check.right(H + "0h~|0h", 2);
            Check.right(H + "0h~|@F@C6h", 2);
            Check.right(H + "0q~@C6q", 1);
            Check.right(H + "[0h~|]2 0h", 3);
            Check.right(H + "0h~|[0h~|]2[0h|]2", 5);
            Check.right(H + "[0h~|(1:@C6h~|)(2:6h|@G)]2", 4);
            Check.error(H + "[0h~|(1:0h|)(2:1h|)]2", PartSongDesk.TIE, AT + 1);
        });
        Check.sentence("that must be a NOTE of the same pitch", () -> {
            for (String next : new String[] {"1q", "-1q", "7q", "-7q", "rq", "^0q", "_0q"}) {
                Check.error(H + "0q~" + next, PartSongDesk.TIE, AT);
            }
            Check.right(H + "0q~=0q", 1);
            Check.error(H + "0q~@F0q", PartSongDesk.TIE, AT);
            Check.right(H + "0q~@F12q", 1);
        });
        Check.sentence("it has the change of the one that is tied to it, by the step of its own", () -> {
            Check.right(H + "^0q~0q", 1);
            Check.error(H + "^0q~1q", PartSongDesk.TIE, AT);
            Check.error(H + "_1q~0q", PartSongDesk.TIE, AT);
            Check.error(H + "0q~_1q", PartSongDesk.TIE, AT);
            Check.right("@G#7M2/4 4q~4q", 1);
        });
        Check.sentence("if it has a ^, _ or = of its own that tells another change, it is not of the same pitch", () -> {
            String[] signs = {"^", "_", "="};
            for (String one : signs) {
                for (String other : signs) {
                    boolean same = one.equals(other);
                    Check.error(H + one + "0q~" + other + "0q", same ? PartSongDesk.RIGHT : PartSongDesk.TIE, same ? PartSongDesk.NONE : AT);
                }
            }
            Check.right("@G#1M2/4 1q~^1q", 1);
            Check.error("@G#1M2/4 1q~=1q", PartSongDesk.TIE, AT + 1);
            Check.right("@Gb1M2/4 4q~_4q", 1);
            Check.error("@Gb1M2/4 4q~=4q", PartSongDesk.TIE, AT + 1);
        });
    }

    private static void bars() {
        Check.sentence("A bar is as many ticks as the meter has.", () -> {
            Check.right("@G#0M1/8 0e|0e", 2);
            Check.error("@G#0M1/8 0e|0s|", PartSongDesk.SHORT, AT + 6);
            Check.error("@G#0M1/8 0e|0e.", PartSongDesk.LONG, AT + 4);
            Check.right("@G#0M4/4 0w|0w", 2);
            Check.right("@G#0M8/8 0w|0w", 2);
            Check.error("@G#0M4/4 0w|0h.0e.|", PartSongDesk.SHORT, AT + 10);
            Check.error("@G#0M4/4 0w|0h.0q.", PartSongDesk.LONG, AT + 7);
        });
        Check.sentence("When the first bar that is sung is ended with fewer ticks, but at least 1, it is as if a rest went ahead that makes it whole.", () -> {
            Check.sung("@G#0M1/8 0s|", "r 52");
            Check.sung("@G#0M1/8 0e|", "52 52");
            Check.sung("@G#0M2/4 0s|", "r r r r r r r 52");
            Check.sung("@G#0M2/4 0q1e1s|", "r 52 52 52 52 53 53 53");
            Check.sung("@G#0M4/4 rs0s|", "r ".repeat(15) + "52");
            Check.sung("@G#0M4/4 0h.0e0s|", "r" + " 52".repeat(15));
            Check.error("@G#0M1/8 |", PartSongDesk.SHORT, AT + 1);
            Check.error("@G#0M1/8 0e|0s|", PartSongDesk.SHORT, AT + 6);
            Check.error("@G#0M1/8 [0s|]2", PartSongDesk.SHORT, AT + 4);
        });
        Check.sentence("At the end of what is sung, a bar that is whole is ended; one without ticks is none.", () -> {
            Check.right(H, 0);
            Check.right(H + "0h", 1);
            Check.right(H + "0h|", 1);
            Check.right(H + "0h|0h", 2);
            Check.right(H + "0h|0h|", 2);
            Check.right(H + "0h|@C[]2", 1);
        });
        Check.sentence("A part, or a copy, is RIGHT if there is no error; otherwise it has no bars.", () -> {
            PartSongDesk desk = Check.with(H + "0h|0h|");
            Check.due("bars", () -> desk.bars(0, 0), 2);
            Check.write(desk, 0, 0, "|");
            Check.due("bars of what is SHORT", () -> desk.bars(0, 0), PartSongDesk.NONE);
            Check.due("no bar 0", () -> desk.pitch(0, 0, 0, 0), Check.INDEX);
            Check.due("no seconds", () -> desk.seconds(0, 0, 60), -1f);
            desk.strike(0, 0, 1);
            Check.due("bars of what is RIGHT again", () -> desk.bars(0, 0), 2);
            // what was broken off within repeats leaves nothing for the next one
            Check.write(desk, 1, 0, H + "[[[0w]2]2]2");
            Check.due("LONG in the third repeat", () -> desk.error(1, 0), PartSongDesk.LONG);
            Check.write(desk, 1, 1, H + "^0h~|[[[1h|]2]2]2");
            Check.due("TIE in the third repeat", () -> desk.error(1, 1), PartSongDesk.TIE);
            Check.write(desk, 1, 2, H + "[[[0h|]2]3]4");
            Check.due("bars behind that", () -> desk.bars(1, 2), 24);
            Check.due("the pitch behind that", () -> desk.pitch(1, 2, 0, 0), 52);
        });
    }

    private static void longAndShort() {
        Check.sentence("LONG at a NOTE or REST with which there would be more ticks in the bar than it has.", () -> {
            Check.right("@G#0M3/4 0h0q", 1);
            Check.error("@G#0M3/4 0h0q0s", PartSongDesk.LONG, AT + 5);
            Check.error("@G#0M3/4 0h0qrs", PartSongDesk.LONG, AT + 5);
            Check.error("@G#0M3/4 0h0q.", PartSongDesk.LONG, AT + 3);
            Check.error("@G#0M3/4 0w", PartSongDesk.LONG, AT + 1);
            Check.error("@G#0M3/4 rw.", PartSongDesk.LONG, AT + 1);
            Check.error("@G#0M4/4 0w0s", PartSongDesk.LONG, AT + 3);
            Check.error("@G#0M3/4 0h.|0h.rs|", PartSongDesk.LONG, AT + 8);
            Check.error("@G#0M3/4 [0h]2", PartSongDesk.LONG, AT + 2);
            Check.error("@G#0M3/4 0h.[]20s", PartSongDesk.LONG, AT + 7);
        });
        Check.sentence("SHORT at a BAR with too few ticks in the bar (or none; at the first bar only none)", () -> {
            Check.error(H + "|", PartSongDesk.SHORT, AT);
            Check.error(H + "@F[]2|", PartSongDesk.SHORT, AT + 5);
            Check.right(H + "0s|", 1);
            Check.error(H + "0s||", PartSongDesk.SHORT, AT + 3);
            Check.error(H + "0s|0q.0s|", PartSongDesk.SHORT, AT + 8);
            Check.right(H + "0s|0q.0e|", 2);
            Check.error(H + "0s|rs|", PartSongDesk.SHORT, AT + 5);
        });
        Check.sentence("at the end of the text, if a bar that is not the first one is not whole there; if it is the first one, it is ended as told", () -> {
            Check.error(H + "0h|0s", PartSongDesk.SHORT, AT + 5);
            Check.error(H + "0h|0q.0s", PartSongDesk.SHORT, AT + 8);
            Check.error(H + "0s|0q.0s  ", PartSongDesk.SHORT, AT + 10);
            Check.right(H + "0h|0q.0e", 2);
            Check.sung("@G#0M1/4 0s", "r r r 52");
            Check.sung("@G#0M1/4 0e.", "r 52 52 52");
            Check.sung("@G#0M1/4 0q", "52 52 52 52");
            Check.right(H + "0s", 1);
        });
    }

    private static void tieErrors() {
        Check.sentence("TIE at the NOTE with ~, found when what is sung next is no NOTE of the same pitch, or nothing is sung behind it", () -> {
            Check.error(H + " 0q~1q", PartSongDesk.TIE, AT + 1);
            Check.error(H + "0h|1q~rq", PartSongDesk.TIE, AT + 3);
            Check.error(H + "0h~", PartSongDesk.TIE, AT);
            Check.error(H + "0h~|", PartSongDesk.TIE, AT);
            Check.error(H + "0h~|@F[]2 ", PartSongDesk.TIE, AT);
            Check.error(H + "[0h~|]2", PartSongDesk.TIE, AT + 1);
            // found behind the BAR, which is in error itself
            Check.error(H + "0h|0q~|1q", PartSongDesk.SHORT, AT + 6);
            Check.error(H + "0h~||1h", PartSongDesk.SHORT, AT + 4);
            Check.right(H + "0q~|0h", 2);
        });
        Check.sentence("if that next one is LONG as well, TIE goes ahead", () -> {
            Check.error(H + "0h~1s", PartSongDesk.TIE, AT);
            Check.error(H + "0h~rs", PartSongDesk.TIE, AT);
            Check.error(H + "0h~^0s", PartSongDesk.TIE, AT);
            Check.error(H + "0h~|1w", PartSongDesk.TIE, AT);
            Check.error(H + "0h~0s", PartSongDesk.LONG, AT + 3);
            Check.error(H + "0h~|0w", PartSongDesk.LONG, AT + 4);
        });
        Check.sentence("At the end of what is sung, TIE goes ahead of SHORT.", () -> {
            Check.error(H + "0h|0q~", PartSongDesk.TIE, AT + 3);
            Check.error(H + "0h|0q", PartSongDesk.SHORT, AT + 5);
            Check.error(H + "0q~", PartSongDesk.TIE, AT);
            Check.error(H + "0h|0s0s~", PartSongDesk.TIE, AT + 5);
            Check.error(H + "0h|0s~0s~", PartSongDesk.TIE, AT + 6);
        });
    }

    private static void many() {
        int end = AT + BARS_36.length();
        Check.sentence("MANY at the BAR, or at the end of the text, by which a 41st bar would be ended.", () -> {
            Check.right(H + BARS_36 + "[0h|]3", 39);
            Check.right(H + BARS_36 + "[0h|]4", 40);
            Check.right(H + BARS_36 + "[0h|]3 0h", 40);
            Check.right(H + BARS_36 + "[0h|]4@F[]2", 40);
            Check.error(H + BARS_36 + "[0h|]4 0h|", PartSongDesk.MANY, end + 9);
            Check.error(H + BARS_36 + "[0h|]4 0h", PartSongDesk.MANY, end + 9);
            Check.error(H + BARS_36 + "[0h|]4 0h  ", PartSongDesk.MANY, end + 11);
            Check.error(H + BARS_36 + "[0h|]4 0h|0h|", PartSongDesk.MANY, end + 9);
            Check.error(H + "[[[0h|]4]4]4", PartSongDesk.MANY, AT + 5);
            // a first bar that is not whole counts as well
            Check.right(H + "0s|" + "[[[0h|]3]3]4 [0h|]3", 40);
            Check.error(H + "0s|" + "[[[0h|]3]3]4 [0h|]4", PartSongDesk.MANY, AT + 19);
        });
        Check.sentence("The first error, as it is sung, at the token that makes it", () -> {
            Check.error(H + BARS_36 + "[0h|]4 0s|", PartSongDesk.SHORT, end + 9);
            Check.error(H + BARS_36 + "[0h|]4 |", PartSongDesk.SHORT, end + 7);
            Check.error(H + BARS_36 + "[0h|]4 0s", PartSongDesk.SHORT, end + 9);
            Check.error(H + BARS_36 + "[0h|]4 0h.", PartSongDesk.LONG, end + 7);
            Check.error(H + BARS_36 + "[0h|]4 0h~|1h", PartSongDesk.MANY, end + 10);
            Check.error(H + BARS_36 + "[0h|]4 0h~1h", PartSongDesk.TIE, end + 7);
            Check.error(H + "[0h|(1:)(2:0w|)]2 |", PartSongDesk.LONG, AT + 11);
            Check.error(H + "[0h|(1:|)(2:0w|)]2", PartSongDesk.SHORT, AT + 7);
        });
    }

    private static void promises() {
        Check.sentence("Returns the bars as they are sung; NONE if its music is not RIGHT.", () -> {
            PartSongDesk desk = Check.with(H);
            Check.due("no bars", () -> desk.bars(0, 0), 0);
            Check.write(desk, 0, 0, "0h");
            Check.due("one bar", () -> desk.bars(0, 0), 1);
            Check.write(desk, 0, 0, "|" + BARS_36 + "[0h|]3");
            Check.due("forty bars", () -> desk.bars(0, 0), 40);
            Check.write(desk, 0, 0, "0h");
            Check.due("41 bars", () -> desk.bars(0, 0), PartSongDesk.NONE);
            Check.due("an empty text", () -> desk.bars(2, 3), PartSongDesk.NONE);
            for (int bad : new int[] {-1, 3, 4}) {
                Check.due("a piece " + bad, () -> desk.bars(bad, 0), Check.INDEX);
                Check.due("a voice " + bad, () -> desk.bars(2, bad), bad == 3 ? PartSongDesk.NONE : Check.INDEX);
            }
        });
        Check.sentence("IndexOutOfBoundsException if there is no such piece, voice, bar or tick", () -> {
            PartSongDesk desk = Check.with("@G#0M4/4 " + "[[[0w|]4]3]3[0w|]3 1w");
            Check.due("the first tick of all", () -> desk.pitch(0, 0, 0, 0), 52);
            Check.due("the last tick of all", () -> desk.pitch(0, 0, 39, 15), 53);
            Check.due("the last tick of the bar ahead", () -> desk.pitch(0, 0, 38, 15), 52);
            int[][] bad = {{-1, 0}, {40, 0}, {41, 0}, {0, -1}, {0, 16}, {39, 16}, {39, -1}, {-1, -1}, {40, 16},
                {Integer.MIN_VALUE, 0}, {Integer.MAX_VALUE, 0}, {0, Integer.MIN_VALUE}, {0, Integer.MAX_VALUE}};
            for (int[] at : bad) {
                Check.due("the bar " + at[0] + ", the tick " + at[1], () -> desk.pitch(0, 0, at[0], at[1]), Check.INDEX);
            }
            Check.write(desk, 2, 3, "@G#0M1/8 0s");
            Check.due("a rest", () -> desk.pitch(2, 3, 0, 0), PartSongDesk.SILENCE);
            Check.due("a note", () -> desk.pitch(2, 3, 0, 1), 52);
            Check.due("the tick 2 of 2", () -> desk.pitch(2, 3, 0, 2), Check.INDEX);
            Check.due("the bar 1 of 1", () -> desk.pitch(2, 3, 1, 0), Check.INDEX);
            Check.write(desk, 1, 0, "@G#0M1/8");
            Check.due("the bar 0 of none", () -> desk.pitch(1, 0, 0, 0), Check.INDEX);
            Check.due("a piece 3", () -> desk.pitch(3, 0, 0, 0), Check.INDEX);
            Check.due("a voice 4", () -> desk.pitch(0, 4, 0, 0), Check.INDEX);
            Check.due("a piece -1", () -> desk.pitch(-1, 3, 0, 0), Check.INDEX);
            Check.due("a voice -1", () -> desk.pitch(2, -1, 0, 0), Check.INDEX);
        });
        Check.sentence("tempo: 20 to 300: 4 ticks so many times a minute", () -> {
            PartSongDesk desk = Check.with("@G#0M4/4 [[[0w|]4]3]3[0w|]4");
            for (int bad : new int[] {19, 301, 0, -20, Integer.MIN_VALUE, Integer.MAX_VALUE}) {
                Check.due("the tempo " + bad, () -> desk.seconds(0, 0, bad), Check.ARGUMENT);
                Check.due("the tempo " + bad + " of no piece", () -> desk.seconds(3, 0, bad), Check.INDEX);
                Check.due("the tempo " + bad + " of an empty text", () -> desk.seconds(1, 0, bad), Check.ARGUMENT);
            }
            Check.due("the tempo 20", () -> desk.seconds(0, 0, 20), 480f);
            Check.due("the tempo 21", () -> desk.seconds(0, 0, 21), 9600f / 21f);
            Check.due("the tempo 299", () -> desk.seconds(0, 0, 299), 9600f / 299f);
            Check.due("the tempo 300", () -> desk.seconds(0, 0, 300), 32f);
        });
        Check.sentence("Returns the seconds: the ticks of all bars, as a float, times 15f, and that divided by the tempo, as a float; -1f if it is not RIGHT.", () -> {
            PartSongDesk desk = Check.with("@G#0M7/8");
            Check.due("no bars", () -> desk.seconds(0, 0, 60), 0f);
            Check.write(desk, 0, 0, "0s");
            Check.due("a first bar counts whole", () -> desk.seconds(0, 0, 77), 14f * 15f / 77f);
            Check.write(desk, 0, 0, "|0h.0e|");
            Check.due("two bars", () -> desk.seconds(0, 0, 293), 28f * 15f / 293f);
            Check.write(desk, 0, 0, "0s");
            Check.due("what is SHORT", () -> desk.seconds(0, 0, 60), -1f);
            Check.due("an empty text", () -> desk.seconds(2, 3, 300), -1f);
        });
    }
}
