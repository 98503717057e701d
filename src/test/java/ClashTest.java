/** Promises 21 and 22: bars of all voices, held against one another. */
public final class ClashTest {
    private static final int[] KINDS = {PartSongDesk.LENGTHS, PartSongDesk.METERS, PartSongDesk.HARSH, PartSongDesk.CROSSED};

    public static void main(String[] args) {
        arguments();
        lengths();
        meters();
        harsh();
        crossed();
        ticks();
        voicesLookedAt();
        asTheLibraryHas();
        otherPieces();
        Check.end("ClashTest");
    }

    private static PartSongDesk printed(String... texts) {
        PartSongDesk desk = new PartSongDesk();
        for (int voice = 0; voice < texts.length; voice++) {
            if (!texts[voice].isEmpty()) {
                Check.write(desk, 1, voice, texts[voice]);
                desk.print(1, voice);
            }
        }
        return desk;
    }

    /** The clashes of each kind, and those of some bars. */
    private static void due(PartSongDesk desk, String ofKinds, int... ofBars) {
        StringBuilder got = new StringBuilder();
        for (int kind : KINDS) {
            got.append(got.length() > 0 ? " " : "").append(desk.clashesOf(1, kind));
        }
        Check.due("clashes of each kind", () -> got, ofKinds);
        for (int bar = 0; bar < ofBars.length; bar++) {
            int b = bar;
            Check.due("clashes of the bar " + b, () -> desk.clashes(1, b), ofBars[b]);
        }
        Check.due("clashes of the bar 39", () -> desk.clashes(1, 39), ofKinds.startsWith("40") ? 1 : 0);
    }

    private static void arguments() {
        PartSongDesk desk = new PartSongDesk();
        for (int bad : new int[] {-1, 3, Integer.MAX_VALUE, Integer.MIN_VALUE}) {
            Check.due("clashes of a piece " + bad, () -> desk.clashes(bad, 0), Check.INDEX);
            Check.due("clashesOf a piece " + bad, () -> desk.clashesOf(bad, 9), Check.INDEX);
        }
        for (int bad : new int[] {-1, 40, Integer.MAX_VALUE, Integer.MIN_VALUE}) {
            Check.due("clashes of a bar " + bad, () -> desk.clashes(0, bad), Check.INDEX);
        }
        for (int bad : new int[] {-1, 4, Integer.MAX_VALUE, Integer.MIN_VALUE}) {
            Check.due("clashesOf a kind " + bad, () -> desk.clashesOf(0, bad), Check.ARGUMENT);
        }
        due(desk, "0 0 0 0", 0);
    }

    private static void lengths() {
        due(printed("@G#0M1/8 re|re|re|", "@G#0M1/8 re|", "", ""), "2 0 0 0", 0, 1, 1, 0);
        due(printed("@G#0M1/8 re|re|", "@G#0M1/8 re|re|", "@G#0M1/8 re|re|re|", "@G#0M1/8"), "3 0 0 0", 1, 1, 1, 0);
        due(printed("@G#0M1/8 re|"), "0 0 0 0", 0, 0);
        due(printed("", "@G#0M1/8", "@C#0M1/8", ""), "0 0 0 0", 0, 0);
        due(printed("@G#0M1/8 [[[re|]4]3]3[re|]4", "@G#0M1/8"), "40 0 0 0", 1, 1, 1);
    }

    private static void meters() {
        due(printed("@G#0M1/8 0e|0e|", "@G#0M1/4 0q|1q|"), "0 2 0 0", 1, 1, 0);
        due(printed("@G#0M1/8 0e|0e|", "@G#0M1/4 0q|1q|", "@G#0M1/8 1e|1e|1e|"), "1 2 0 0", 1, 1, 1, 0);
        due(printed("@G#0M2/8 0q|", "@G#0M1/4 1q|"), "0 0 1 1", 2, 0);
        due(printed("@G#0M1/8 0e|", "@G#0M1/8 1e|", "@G#0M1/8 2e|", "@G#0M3/8 0q.|0q.|"), "1 1 0 0", 1, 1, 0);
        due(printed("@G#0M1/8", "@G#0M1/8 1e|", "@G#0M1/8 2e|", "@G#0M1/4"), "1 0 0 1", 2, 0);
    }

    private static void harsh() {
        // C as the lower pitch, and all pitches from it up to two octaves above
        String[] above = {"-2", "^-2", "-1", "^-1", "0", "1", "^1", "2", "^2", "3", "^3", "4", "5", "^5", "6", "^6", "7", "8", "^8", "9", "^9", "10", "^10", "11", "12"};
        for (int apart = 0; apart < above.length; apart++) {
            boolean harsh = apart % 12 == 1 || apart % 12 == 11;
            PartSongDesk desk = printed("@G#0M1/8 " + above[apart] + "e|", "@G#0M1/8 -2e|");
            due(desk, "0 0 " + (harsh ? 1 : 0) + " 0", harsh ? 1 : 0);
            PartSongDesk turned = printed("@G#0M1/8 -2e|", "", "", "@G#0M1/8 " + above[apart] + "e|");
            due(turned, "0 0 " + (harsh ? 1 : 0) + " " + (apart > 0 ? 1 : 0), (harsh ? 1 : 0) + (apart > 0 ? 1 : 0));
        }
        due(printed("@G#0M1/8 1e|", "@G#0M1/8 0e|", "@G#0M1/8 0e|", "@G#0M1/8 0e|"), "0 0 3 0", 3);
    }

    private static void crossed() {
        due(printed("@G#0M1/8 0e|0e|", "@G#0M1/8 2e|0e|"), "0 0 0 1", 1, 0);
        due(printed("@G#0M1/8 0e|2e|", "@G#0M1/8 2e|0e|", "@G#0M1/8 4e|-2e|"), "0 0 0 3", 3, 0);
        due(printed("@G#0M1/8 0e|", "@G#0M1/8 2e|", "@G#0M1/8 4e|", "@G#0M1/8 7e|"), "0 0 0 6", 6);
        due(printed("", "@G#0M1/8 4e|", "", "@F#0M1/8 17e|"), "0 0 1 1", 2);
        due(printed("", "@G#0M1/8 4e|", "", "@F#0M1/8 16e|"), "0 0 0 0", 0);
    }

    private static void ticks() {
        due(printed("@G#0M2/4 1h|", "@G#0M2/4 0q0q|"), "0 0 2 0", 2);
        due(printed("@G#0M2/4 1s1s1q.|", "@G#0M2/4 0q0q|"), "0 0 4 0", 4);
        due(printed("@G#0M2/4 1s1s1q.|", "@G#0M2/4 0qrq|"), "0 0 3 0", 3);
        due(printed("@G#0M2/4 rs1s1q.|", "@G#0M2/4 rq0q|"), "0 0 1 0", 1);
        due(printed("@G#0M2/4 rq1q|", "@G#0M2/4 0qrq|"), "0 0 0 0", 0);
        due(printed("@G#0M1/8 1e~|1e|1e~|1e|", "@G#0M1/8 0e~|0e~|0e|0e|"), "0 0 3 0", 1, 0, 1, 1);
        due(printed("@G#0M1/8 0e~|0e|", "@G#0M1/8 2e~|2s2s|"), "0 0 0 2", 1, 1);
        due(printed("@G#0M2/4 1q|", "@G#0M2/4 0h|"), "0 0 1 0", 1);
        due(printed("@G#0M4/4 0w|", "@G#0M4/4 1s1s1s1s1s1s1s1s1s1s1s1s1s1s1s1s|"), "0 0 16 16", 32);
    }

    private static void voicesLookedAt() {
        PartSongDesk desk = printed("@G#0M1/8 1e|");
        Check.write(desk, 1, 1, "@G#0M1/8 0e|0e|");
        due(desk, "0 0 0 0", 0, 0);
        desk.print(1, 1);
        due(desk, "1 0 1 0", 1, 1);
        desk.lend(1, 5);
        desk.pencil(1, 3, PartSongDesk.TO_TICKS, 4);
        due(desk, "1 0 1 0", 1, 1);
        desk.back(1);
        due(desk, "0 0 0 0", 0, 0);
        desk.lend(1, 5);
        desk.pencil(1, 3, PartSongDesk.TO_TICKS, 100);
        desk.back(1);
        due(desk, "1 0 1 0", 1, 1);
    }

    private static void asTheLibraryHas() {
        PartSongDesk desk = printed("@G#0M1/8 2e|", "@G#0M1/8 0e|");
        due(desk, "0 0 0 0", 0);
        desk.lend(1, 0);
        desk.pencil(1, 3, PartSongDesk.TO_PLACE, 3);
        due(desk, "0 0 0 0", 0);
        desk.back(1);
        due(desk, "0 0 0 1", 1);
        desk.lend(0, 0);
        desk.pencil(0, 3, PartSongDesk.TO_REST, 1);
        desk.back(0);
        due(desk, "0 0 0 0", 0);
    }

    private static void otherPieces() {
        PartSongDesk desk = printed("@G#0M1/8 1e|", "@G#0M1/8 0e|");
        Check.write(desk, 0, 0, "@G#0M1/8 0e|");
        desk.print(0, 0);
        Check.write(desk, 2, 3, "@G#0M1/8 1e|");
        desk.print(2, 3);
        due(desk, "0 0 1 0", 1);
        Check.due("clashes of the piece 0", () -> desk.clashes(0, 0), 0);
        Check.due("clashes of the piece 2", () -> desk.clashes(2, 0), 0);
        Check.due("clashesOf the piece 0", () -> desk.clashesOf(0, PartSongDesk.HARSH), 0);
        Check.due("clashesOf the piece 2", () -> desk.clashesOf(2, PartSongDesk.LENGTHS), 0);
    }
}
