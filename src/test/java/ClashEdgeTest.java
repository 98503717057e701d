/** Each sentence of "Bars held against one another" and the promises 21 and 22 that names a boundary, with a test of its own. */
public final class ClashEdgeTest {
    private static final int[] NATURAL = {0, 2, 4, 5, 7, 9, 11};
    private static final String FORTY = "@G#0M1/8 [[[re|]4]3]3[re|]4";

    public static void main(String[] args) {
        voices();
        lengthsAndMeters();
        harsh();
        crossed();
        promises();
        Check.end("ClashEdgeTest");
    }

    /** The piece 2 with these texts, all of them printed but the empty ones. */
    private static PartSongDesk printed(String... texts) {
        PartSongDesk desk = new PartSongDesk();
        for (int voice = 0; voice < texts.length; voice++) {
            Check.write(desk, 2, voice, texts[voice]);
            if (!texts[voice].isEmpty()) {
                desk.print(2, voice);
            }
        }
        return desk;
    }

    /** LENGTHS, METERS, HARSH and CROSSED in all bars. */
    private static void due(PartSongDesk desk, int lengths, int meters, int harsh, int crossed) {
        int[] want = {lengths, meters, harsh, crossed};
        for (int kind = 0; kind < 4; kind++) {
            int k = kind;
            Check.due("clashes of the kind " + k, () -> desk.clashesOf(2, k), want[k]);
        }
    }

    private static void dueIn(PartSongDesk desk, int... ofBars) {
        for (int bar = 0; bar < ofBars.length; bar++) {
            int b = bar;
            Check.due("clashes of the bar " + b, () -> desk.clashes(2, b), ofBars[b]);
        }
    }

    /** A part of one short bar, with a pitch of 15 to 85. */
    private static String part(int pitch) {
        for (int sign = 0; sign < 3; sign++) {
            for (int clef = 0; clef < 2; clef++) {
                for (int place = -9; place <= 19; place++) {
                    int step = (clef == 0 ? 30 : 18) + place;
                    if (12 * (step / 7) + NATURAL[step % 7] + (sign == 0 ? 0 : sign == 1 ? 1 : -1) == pitch) {
                        return (clef == 0 ? "@G" : "@F") + "#0M1/8 " + (sign == 0 ? "" : sign == 1 ? "^" : "_") + place + "e|";
                    }
                }
            }
        }
        throw new IllegalArgumentException("no note of the pitch " + pitch);
    }

    private static void voices() {
        Check.sentence("the voices are looked at whose part is printed and whose music, as the library has it, is RIGHT", () -> {
            PartSongDesk desk = printed("@G#0M1/8 1e|1e|");
            due(desk, 0, 0, 0, 0);
            Check.write(desk, 2, 3, "@G#0M1/8 0e|");
            Check.due("a part that is not printed, but RIGHT", () -> desk.bars(2, 3), 1);
            due(desk, 0, 0, 0, 0);
            desk.print(2, 3);
            due(desk, 1, 0, 1, 0);
            desk.lend(1, 0);
            desk.pencil(1, 3, PartSongDesk.TO_PLACE, 2);
            due(desk, 1, 0, 1, 0);
            desk.back(1);
            due(desk, 1, 0, 0, 1);
            desk.lend(1, 0);
            desk.pencil(1, 3, PartSongDesk.TO_TICKS, 3);
            due(desk, 1, 0, 0, 1);
            desk.back(1);
            due(desk, 0, 0, 0, 0);
            desk.print(2, 3);
            due(desk, 0, 0, 0, 0);
            desk.lend(1, 0);
            desk.pencil(1, 3, PartSongDesk.TO_TICKS, PartSongDesk.AS_PRINTED);
            desk.back(1);
            due(desk, 1, 0, 0, 1);
        });
        Check.sentence("For each bar of a piece", () -> {
            PartSongDesk desk = printed("@G#0M1/8 1e|", "@G#0M1/8 0e|");
            Check.write(desk, 1, 3, "@G#0M1/8 0e|0e|");
            desk.print(1, 3);
            Check.write(desk, 0, 2, "@G#0M1/8 0e|0e|");
            desk.print(0, 2);
            due(desk, 0, 0, 1, 0);
            Check.due("another piece", () -> desk.clashes(1, 0), 0);
            Check.due("another piece", () -> desk.clashesOf(0, PartSongDesk.HARSH), 0);
        });
    }

    private static void lengthsAndMeters() {
        Check.sentence("LENGTHS: 1 in each bar that some of these voices have, and others of these have not", () -> {
            due(printed("@G#0M1/8 re|"), 0, 0, 0, 0);
            due(printed("@G#0M1/8 re|", "@G#0M1/8 re|", "@G#0M1/8 re|", "@G#0M1/8 re|"), 0, 0, 0, 0);
            PartSongDesk one = printed("@G#0M1/8 re|", "@G#0M1/8 re|re|", "@G#0M1/8 re|", "@G#0M1/8 re|");
            due(one, 1, 0, 0, 0);
            dueIn(one, 0, 1, 0);
            PartSongDesk all = printed("@G#0M1/8", "@G#0M1/8 re|", "@G#0M1/8 re|re|", "@G#0M1/8 re|re|re|");
            due(all, 3, 0, 0, 0);
            dueIn(all, 1, 1, 1, 0);
            due(printed("@G#0M1/8", "@G#0M1/4"), 0, 0, 0, 0);
            due(printed(FORTY, "@G#0M1/8"), 40, 0, 0, 0);
            due(printed(FORTY, FORTY), 0, 0, 0, 0);
        });
        Check.sentence("METERS: 1 in each bar in which two of the voices that have it have bars of unlike ticks; no other ones are counted in it then but LENGTHS", () -> {
            PartSongDesk two = printed("@G#0M1/8 0e|", "@G#0M1/4 1q|");
            due(two, 0, 1, 0, 0);
            dueIn(two, 1, 0);
            due(printed("@G#0M1/4 1q|", "@G#0M1/8 0e|"), 0, 1, 0, 0);
            // the bar 1 is counted in full, for the one of unlike ticks has none
            PartSongDesk three = printed("@G#0M1/8 0e|0e|", "@G#0M1/8 1e|1e|", "@G#0M1/4 1q|");
            due(three, 1, 1, 1, 1);
            dueIn(three, 1, 3, 0);
            PartSongDesk last = printed("@G#0M1/8 0e|", "@G#0M1/8 1e|", "@G#0M1/8 2e|", "@G#0M3/8 re.re.|re.re.|");
            due(last, 1, 1, 0, 0);
            due(printed("@G#0M2/8 0q|", "@G#0M1/4 0q|", "@G#0M2/8 0q|", "@G#0M1/4 0q|"), 0, 0, 0, 0);
            due(printed("@G#0M8/8 rw|", "", "", "@G#0M4/4 rw|"), 0, 0, 0, 0);
            due(printed("@G#0M7/8 rhrqre|", "", "", "@G#0M4/4 rw|"), 0, 1, 0, 0);
        });
    }

    private static void harsh() {
        Check.sentence("and the difference of the pitches, without its sign, divided by 12, leaves 1 or 11", () -> {
            for (int apart = 0; apart <= 70; apart++) {
                boolean is = apart % 12 == 1 || apart % 12 == 11;
                due(printed(part(15 + apart), part(15)), 0, 0, is ? 1 : 0, 0);
                due(printed("", part(15), part(15 + apart)), 0, 0, is ? 1 : 0, apart > 0 ? 1 : 0);
                if (apart >= 58) {
                    due(printed(part(85), part(85 - apart)), 0, 0, is ? 1 : 0, 0);
                }
            }
        });
        Check.sentence("HARSH: for each two voices that have the bar, 1 for each tick at which both have a pitch, at least one of both begins", () -> {
            due(printed("@G#0M1/8 1s1s|", "@G#0M1/8 0e|"), 0, 0, 2, 0);
            due(printed("@G#0M1/8 1s~1s|", "@G#0M1/8 0s0s|"), 0, 0, 2, 0);
            due(printed("@G#0M1/8 1e|", "@G#0M1/8 0s~0s|"), 0, 0, 1, 0);
            due(printed("@G#0M1/8 1e~|1e|", "@G#0M1/8 0e~|0e|"), 0, 0, 1, 0);
            due(printed("@G#0M1/8 1e~|1e|", "@G#0M1/8 0e|0e|"), 0, 0, 2, 0);
            due(printed("@G#0M1/8 1srs|", "@G#0M1/8 rs0s|"), 0, 0, 0, 0);
            for (int pitch = 48; pitch < 60; pitch++) {
                due(printed("", part(pitch), "@G#0M1/8 re|"), 0, 0, 0, 0);
                due(printed("", "@G#0M1/8 re|", part(pitch)), 0, 0, 0, 0);
            }
            due(printed("@G#0M1/8 1srs|", "@G#0M1/8 0e|"), 0, 0, 1, 0);
            due(printed("@G#0M1/8 1s|", "@G#0M1/8 0e|"), 0, 0, 1, 0);
            due(printed("@G#0M1/8 1s|", "@G#0M1/8 0s|"), 0, 0, 1, 0);
            // one voice of four against three, and two against two
            due(printed("@G#0M1/8 1e|", "@G#0M1/8 0e|", "@G#0M1/8 0e|", "@G#0M1/8 0e|"), 0, 0, 3, 0);
            due(printed("@G#0M1/8 1e|", "@G#0M1/8 1e|", "@G#0M1/8 0e|", "@G#0M1/8 0e|"), 0, 0, 4, 0);
            due(printed("@G#0M4/4 1w|", "@G#0M4/4 " + "0s".repeat(16)), 0, 0, 16, 0);
            due(printed("@G#0M4/4 1w|", "@G#0M4/4 0h.0e.0s|"), 0, 0, 3, 0);
        });
    }

    private static void crossed() {
        Check.sentence("CROSSED: likewise, whatever the difference is, 1 for each tick at which both have a pitch, at least one of both begins, and the lower voice has the greater pitch.", () -> {
            for (int high : new int[] {15, 16, 50, 84, 85}) {
                for (int low : new int[] {15, 16, 50, 84, 85}) {
                    int apart = Math.abs(high - low) % 12;
                    due(printed(part(high), "", "", part(low)), 0, 0, apart == 1 || apart == 11 ? 1 : 0, low > high ? 1 : 0);
                }
            }
            due(printed("@G#0M1/8 0e|", "@G#0M1/8 2e|", "@G#0M1/8 4e|", "@G#0M1/8 7e|"), 0, 0, 0, 6);
            due(printed("@G#0M1/8 7e|", "@G#0M1/8 4e|", "@G#0M1/8 2e|", "@G#0M1/8 0e|"), 0, 0, 0, 0);
            due(printed("@G#0M1/8 0e~|0e|", "@G#0M1/8 2e~|2e|"), 0, 0, 0, 1);
            due(printed("@G#0M1/8 0e~|0e|", "@G#0M1/8 2e~|2s2s|"), 0, 0, 0, 2);
            due(printed("@G#0M1/8 0srs|", "@G#0M1/8 rs2s|"), 0, 0, 0, 0);
            due(printed("@G#0M4/4 0w|", "@G#0M4/4 " + "2s".repeat(16)), 0, 0, 0, 16);
        });
    }

    private static void promises() {
        Check.sentence("bar: 0 to 39", () -> {
            PartSongDesk desk = printed("@G#0M1/8 [[[2e|]4]3]3[2e|]3 1e", "@G#0M1/8 [[[0e|]4]3]3[0e|]3 2s2s");
            dueIn(desk, new int[39]);
            Check.due("the last bar", () -> desk.clashes(2, 39), 2);
            due(desk, 0, 0, 0, 2);
            for (int bad : new int[] {-1, 40, 41, Integer.MIN_VALUE, Integer.MAX_VALUE}) {
                Check.due("the bar " + bad, () -> desk.clashes(2, bad), Check.INDEX);
                Check.due("the bar " + bad + " of no piece", () -> desk.clashes(3, bad), Check.INDEX);
            }
            Check.due("a bar of nothing", () -> desk.clashes(0, 39), 0);
        });
        Check.sentence("Returns the clashes of all kinds.", () -> {
            dueIn(printed("@G#0M1/8 0e|", "@G#0M1/8 1e|", "@G#0M1/8"), 3, 0);
            dueIn(printed("@G#0M1/8 0e|", "@G#0M1/4 1q|", "@G#0M1/8"), 2, 0);
        });
        Check.sentence("kind: LENGTHS, METERS, HARSH or CROSSED", () -> {
            PartSongDesk desk = printed("@G#0M1/8 0e|", "@G#0M1/8 1e|");
            for (int bad : new int[] {-1, 4, 5, Integer.MIN_VALUE, Integer.MAX_VALUE}) {
                Check.due("the kind " + bad, () -> desk.clashesOf(2, bad), Check.ARGUMENT);
                Check.due("the kind " + bad + " of no piece", () -> desk.clashesOf(3, bad), Check.INDEX);
            }
            for (int bad : new int[] {-1, 3, Integer.MIN_VALUE, Integer.MAX_VALUE}) {
                Check.due("the piece " + bad, () -> desk.clashesOf(bad, 0), Check.INDEX);
                Check.due("the piece " + bad, () -> desk.clashes(bad, 0), Check.INDEX);
            }
            due(desk, 0, 0, 1, 1);
        });
    }
}
