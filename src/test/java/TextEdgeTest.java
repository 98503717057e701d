/** Each sentence of "Tokens", "Grammar" and the promises 1 to 7 that names a boundary, with a test of its own. */
public final class TextEdgeTest {
    private static final String H = "@G#0M2/4";
    private static final int AT = 8;

    public static void main(String[] args) {
        texts();
        tokens();
        notes();
        manyTokens();
        grammar();
        errors();
        orders();
        promises();
        Check.end("TextEdgeTest");
    }

    private static void texts() {
        Check.sentence("Empty texts, no copies; the day 0.", TextEdgeTest::newObject);
        Check.sentence("There are the pieces 0 to 2, each with the voices 0 to 3 (0 is the highest one), so 12 parts", TextEdgeTest::twelveParts);
        Check.sentence("The text of a part has at most 160 characters.", TextEdgeTest::fullText);
        Check.sentence("It is read from its beginning on: spaces are passed over", TextEdgeTest::spaces);
        Check.sentence("what begins behind them is the longest token that can be read there", TextEdgeTest::longest);
    }

    private static void tokens() {
        Check.sentence("CLEF: @ and one of G, F, C.", () -> {
            for (char c = ' '; c <= '~'; c++) {
                behind("", "@" + c, c == 'G' || c == 'F' || c == 'C', 2);
            }
            behind("", "@", false, 1);
        });
        Check.sentence("KEY: # or b, and a digit 0 to 7: so many sharps, or flats.", () -> {
            for (char c = ' '; c <= '~'; c++) {
                behind("@G", "#" + c, c >= '0' && c <= '7', 2);
                behind("@G", "b" + c, c >= '0' && c <= '7', 2);
            }
            behind("@G", "#", false, 1);
            behind("@G", "b", false, 1);
        });
        Check.sentence("METER: M, a digit 1 to 9, / and 4 or 8.", TextEdgeTest::meters);
        Check.sentence("Its ticks are the first digit times 4 (for 4) or times 2 (for 8); they must be 2 to 16.", TextEdgeTest::meterTicks);
        Check.sentence("REST: r and a length.", () -> {
            for (char c = ' '; c <= '~'; c++) {
                behind("@G#0M4/4", "r" + c, "whqes".indexOf(c) >= 0, 2);
            }
            behind("@G#0M4/4", "r", false, 1);
            kind("rs", PartSongDesk.REST);
            kind("rq.", PartSongDesk.REST);
        });
        Check.sentence("CLOSE: ] and a digit 2 to 4, the times.", () -> {
            for (char c = ' '; c <= '~'; c++) {
                behind(H + "[", "]" + c, c >= '2' && c <= '4', 2);
            }
            behind(H + "[", "]", false, 1);
        });
        Check.sentence("FIRST_OF: ( and a digit 1 to 4 and :, the number of an ending.", () -> {
            for (char c = ' '; c <= '~'; c++) {
                behind(H + "[", "(" + c + ":", c >= '1' && c <= '4', 3);
                behind(H + "[", "(1" + c, c == ':', 3);
            }
            behind(H + "[", "(1", false, 2);
            behind(H + "[", "(", false, 1);
        });
        Check.sentence("BAR: |. OPEN: [.", () -> {
            for (char c = ' '; c <= '~'; c++) {
                behind(H, String.valueOf(c), " |[)".indexOf(c) >= 0, 1);
            }
            kind("|", PartSongDesk.BAR);
            kind("[", PartSongDesk.OPEN);
            kind(")", PartSongDesk.LAST_OF);
        });
    }

    private static void notes() {
        Check.sentence("NOTE: perhaps one of ^ (sharp), _ (flat), = (natural)", () -> {
            for (char c = '!'; c <= '~'; c++) {
                // those of the list begin other tokens, or are digits
                if ("#b)[|01".indexOf(c) < 0) {
                    behind("@G#0M4/4", c + "5h", c == '^' || c == '_' || c == '=' || c == '-', 3);
                }
            }
            for (String two : new String[] {"^^5h", "^_5h", "__5h", "==5h", "=^5h", "-^5h", "5^h", "5h^"}) {
                Check.error("@G#0M4/4" + two, PartSongDesk.TOKEN, two.equals("5h^") ? 10 : 8);
            }
        });
        Check.sentence("a place on the staff, which is perhaps -, and one or two digits (05 is 5, -0 is 0)", () -> {
            pitchOf("5h", 60);
            pitchOf("05h", 60);
            pitchOf("0h", 52);
            pitchOf("00h", 52);
            pitchOf("-0h", 52);
            pitchOf("-00h", 52);
            pitchOf("-05h", 43);
            pitchOf("-5h", 43);
            for (char c = '!'; c <= '~'; c++) {
                boolean isDigit = c >= '0' && c <= '9';
                // those of the list begin other tokens
                if ("r|[)".indexOf(c) < 0) {
                    behind("@G#0M4/4", c + "e", isDigit, 2);
                }
                boolean isLength = "whqes".indexOf(c) >= 0;
                behind("@G#0M4/4", "0" + c + "e", isDigit || isLength, isDigit ? 3 : 2);
                behind("@G#0M4/4", "-0" + c + "e", isDigit || isLength, isDigit ? 4 : 3);
                behind("@G#0M4/4", "00" + c, isLength, 3);
            }
            for (String none : new String[] {"h", "-h", "--5h", "005h", "-005h", "012h", "5-h", "^h"}) {
                behind(H, none, false, 0);
            }
        });
        Check.sentence("The place is -9 to 19.", () -> {
            pitchOf("-9h", 36);
            pitchOf("-09h", 36);
            pitchOf("-8h", 38);
            pitchOf("18h", 83);
            pitchOf("19h", 84);
            for (String out : new String[] {"-10h", "-11h", "-19h", "-99h", "20h", "21h", "29h", "99h", "^20h", "_-10h"}) {
                behind(H, out, false, 0);
            }
        });
        Check.sentence("A length is one of w, h, q, e, s, that is 16, 8, 4, 2 and 1 ticks, and perhaps a dot (.), which makes it 24, 12, 6 and 3", TextEdgeTest::lengths);
        Check.sentence("s has none", () -> {
            Check.error(H + "5s.", PartSongDesk.TOKEN, AT + 2);
            Check.error(H + "rs.", PartSongDesk.TOKEN, AT + 2);
            Check.error(H + "5s.~", PartSongDesk.TOKEN, AT + 2);
            Check.right(H + "5e.5s", 1);
        });
        Check.sentence("and perhaps ~ (a tie)", () -> {
            Check.right(H + "5s~5s", 1);
            Check.right(H + "5e.~5e.", 1);
            Check.error(H + "5s~~5s", PartSongDesk.TOKEN, AT + 3);
            Check.error(H + "5s ~5s", PartSongDesk.TOKEN, AT + 3);
            Check.error(H + "5~s", PartSongDesk.TOKEN, AT);
            Check.error(H + "rs~", PartSongDesk.TOKEN, AT + 2);
        });
    }

    private static void manyTokens() {
        Check.sentence("Where no token can be read (a place, a meter or another number out of its range belongs to that), the text has the error TOKEN, at the first character behind the spaces.", () -> {
            for (String none : new String[] {"20q", "-10q", "M5/4", "M9/8", "M0/4", "#8", "b9", "]1", "]5", "(0:", "(5:", "x"}) {
                Check.error(H + none, PartSongDesk.TOKEN, AT);
                Check.error(H + "   " + none + " 0q", PartSongDesk.TOKEN, AT + 3);
                Check.error(none, PartSongDesk.TOKEN, 0);
            }
        });
        Check.sentence("There are at most 60 tokens; the 61st is an error TOKEN at its first character.", TextEdgeTest::sixtyTokens);
    }

    private static void newObject() {
        PartSongDesk desk = new PartSongDesk();
        for (int part = 0; part < 12; part++) {
            int piece = part / 4;
            int voice = part % 4;
            Check.due("errorAt", () -> desk.errorAt(piece, voice), 0);
            Check.due("tokens", () -> desk.tokens(piece, voice), 0);
            Check.due("strike", () -> desk.strike(piece, voice, 160), 0);
            Check.due("write", () -> desk.write(piece, voice, ' '), 1);
        }
        Check.due("holder of the copy 0", () -> desk.holder(0), Check.INDEX);
        Check.due("done of the request 0", () -> desk.done(0), Check.INDEX);
        Check.due("concerts", () -> desk.concerts(), 0);
        Check.write(desk, 2, 3, H + "0h");
        Check.due("the first copy", () -> desk.print(2, 3), 0);
        desk.lend(0, 11);
        Check.due("the first correction", () -> desk.pencil(0, 0, PartSongDesk.TO_CLEF, 0), 0);
        Check.due("the first request", () -> desk.ask(2, 8, 0, 0), 0);
        Check.due("plan", () -> desk.plan(), 1);
        Check.due("done on the day 0", () -> desk.done(0), 0);
        Check.due("the day behind it", () -> desk.day(), 1);
    }

    private static void twelveParts() {
        PartSongDesk desk = new PartSongDesk();
        for (int part = 0; part < 12; part++) {
            Check.write(desk, part / 4, part % 4, "@".repeat(part + 1));
        }
        for (int part = 0; part < 12; part++) {
            int p = part;
            Check.due("each part has its own text", () -> desk.strike(p / 4, p % 4, 1), p);
        }
        for (int bad : new int[] {-1, 3, 4, 12, Integer.MIN_VALUE, Integer.MAX_VALUE}) {
            Check.due("a piece " + bad, () -> desk.tokens(bad, 0), Check.INDEX);
        }
        for (int bad : new int[] {-1, 4, 5, 12, Integer.MIN_VALUE, Integer.MAX_VALUE}) {
            Check.due("a voice " + bad, () -> desk.tokens(0, bad), Check.INDEX);
            Check.due("a voice " + bad, () -> desk.tokens(1, bad), Check.INDEX);
            Check.due("a voice " + bad, () -> desk.tokens(2, bad), Check.INDEX);
        }
    }

    private static void fullText() {
        PartSongDesk desk = Check.with(H + " ".repeat(151));
        Check.due("the character 160", () -> desk.write(0, 0, 'x'), 160);
        Check.due("it is read", () -> desk.errorAt(0, 0), 159);
        Check.due("the character 161", () -> desk.write(0, 0, ' '), Check.STATE);
        Check.due("it is not written", () -> desk.strike(0, 0, 1), 159);
        Check.due("another one in its place", () -> desk.write(0, 0, ')'), 160);
        Check.due("it is read", () -> desk.error(0, 0), PartSongDesk.UNEXPECTED);
        Check.due("where", () -> desk.errorAt(0, 0), 159);
        Check.due("another part has room", () -> desk.write(0, 1, ' '), 1);
        // the last token ends with the last character
        Check.right(H + " ".repeat(150) + "0h", 1);
        Check.error(H + " ".repeat(150) + "0", PartSongDesk.TOKEN, 158);
        Check.error(H + " ".repeat(151) + "r", PartSongDesk.TOKEN, 159);
    }

    private static void spaces() {
        Check.error(" ", PartSongDesk.HEADER, 1);
        Check.error(" ".repeat(160), PartSongDesk.HEADER, 160);
        Check.right("  @G  #0 M2/4   rh |  ", 1);
        Check.error("  x", PartSongDesk.TOKEN, 2);
        Check.error("  |", PartSongDesk.HEADER, 2);
        for (String parted : new String[] {"@ G", "@G# 0", "@G#0M 2/4", "@G#0M2 /4", "@G#0M2/ 4"}) {
            int at = parted.startsWith("@ ") ? 0 : parted.startsWith("@G# ") ? 2 : 4;
            Check.error(parted, PartSongDesk.TOKEN, at);
        }
        for (String parted : new String[] {"^ 0h", "- 0h", "0 h", "1 0h", "r h", "] 2", "( 1:", "(1 :"}) {
            Check.error(H + parted, PartSongDesk.TOKEN, AT);
        }
        Check.error(H + "0q .", PartSongDesk.TOKEN, AT + 3);
        Check.error(H + "0q ~", PartSongDesk.TOKEN, AT + 3);
    }

    private static void longest() {
        many("@G#0M2/4", 3);
        many("@G#0M2/412s", 4);
        many("@G#0M2/4 12s", 4);
        many("@G#0M2/4 1s2s", 5);
        many("@G#12sM2/4", 4);
        many("@G#0M2/4[]21s", 6);
        many("@G#0M2/4 1q.", 4);
        many("@G#0M2/4 1q.~1e~", 5);
        many("@G#0M2/4 1q~.", 4);
        many("@G#0M2/4rq.rq", 5);
        Check.error(H + "1q..", PartSongDesk.TOKEN, AT + 3);
        Check.error(H + "123q", PartSongDesk.TOKEN, AT);
        Check.error(H + "1q2", PartSongDesk.TOKEN, AT + 2);
        pitchOf("12h", 72);
        pitchOf("1q.1e", 53);
    }

    private static void meters() {
        for (char c = ' '; c <= '~'; c++) {
            behind("@G#0", "M" + c + "/4", c >= '1' && c <= '4', 4);
            behind("@G#0", "M" + c + "/8", c >= '1' && c <= '8', 4);
            behind("@G#0", "M2/" + c, c == '4' || c == '8', 4);
            behind("@G#0", "M2" + c + "4", c == '/', 4);
        }
        behind("@G#0", "M2/", false, 3);
        behind("@G#0", "M2", false, 2);
        behind("@G#0", "M", false, 1);
    }

    private static void meterTicks() {
        for (int beats = 0; beats <= 9; beats++) {
            for (int unit = 4; unit <= 8; unit += 4) {
                int ticks = beats * (unit == 4 ? 4 : 2);
                String meter = "M" + beats + "/" + unit;
                if (ticks < 2 || ticks > 16) {
                    Check.error("@G#0" + meter, PartSongDesk.TOKEN, 4);
                    continue;
                }
                PartSongDesk desk = Check.with("@G#0" + meter + "0s");
                Check.due("the last tick of " + meter, () -> desk.pitch(0, 0, 0, ticks - 1), 52);
                Check.due("the tick behind it", () -> desk.pitch(0, 0, 0, ticks), Check.INDEX);
                Check.due("the seconds", () -> desk.seconds(0, 0, 60), ticks / 4f);
            }
        }
    }

    private static void lengths() {
        String[] all = {"w", "h.", "h", "q.", "q", "e.", "e", "s"};
        int[] ticks = {16, 12, 8, 6, 4, 3, 2, 1};
        for (int i = 0; i < all.length; i++) {
            int length = ticks[i];
            PartSongDesk desk = Check.with("@G#0M4/4 0" + all[i]);
            Check.due("the first tick of " + all[i], () -> desk.pitch(0, 0, 0, 16 - length), 52);
            if (length < 16) {
                Check.due("the tick ahead of " + all[i], () -> desk.pitch(0, 0, 0, 15 - length), PartSongDesk.SILENCE);
                Check.right("@G#0M4/4 0s|r" + all[i] + restOf(16 - length) + "|", 2);
            }
        }
        Check.due("w. is read", () -> Check.with(H + "0w.").tokens(0, 0), 4);
        Check.error("@G#0M4/4 0w.", PartSongDesk.LONG, 9);
        Check.error("@G#0M4/4 rw.", PartSongDesk.LONG, 9);
    }

    /** RESTs of so many ticks. */
    private static String restOf(int ticks) {
        StringBuilder rests = new StringBuilder();
        int left = ticks;
        for (int length = 8; length >= 1; length /= 2) {
            for (; left >= length; left -= length) {
                rests.append('r').append(length == 8 ? 'h' : length == 4 ? 'q' : length == 2 ? 'e' : 's');
            }
        }
        return rests.toString();
    }

    private static void sixtyTokens() {
        String header = "@G#0M4/4";
        String fiftySix = ("rs".repeat(16) + "|").repeat(3) + "rs".repeat(5);
        many(header + fiftySix, 59);
        many(header + fiftySix + "rs", 60);
        many(header + fiftySix + "rs rs", 60);
        Check.error(header + fiftySix + "rs", PartSongDesk.SHORT, 8 + 99 + 12);
        Check.error(header + fiftySix + "rs   ", PartSongDesk.SHORT, 8 + 99 + 15);
        Check.error(header + fiftySix + "rs|", PartSongDesk.TOKEN, 8 + 99 + 12);
        Check.error(header + fiftySix + "rs   |", PartSongDesk.TOKEN, 8 + 99 + 15);
        Check.error(header + fiftySix + "rs   x", PartSongDesk.TOKEN, 8 + 99 + 15);
        Check.right(header + ("rw|").repeat(28) + "@G", 28);
        Check.error(header + ("rw|").repeat(28) + "@G@G", PartSongDesk.TOKEN, 8 + 84 + 2);
        PartSongDesk full = Check.with(header + fiftySix + "rs");
        Check.due("the token 59", () -> full.token(0, 0, 59), PartSongDesk.REST);
        Check.due("the token 60", () -> full.token(0, 0, 60), Check.INDEX);
        Check.write(full, 0, 0, "rs");
        Check.due("the token 60 is none", () -> full.token(0, 0, 60), Check.INDEX);
    }

    private static void grammar() {
        Check.sentence("A part is a CLEF, a KEY, a METER, in this order, and a body.", () -> {
            String[] parts = {"@G", "#0", "M2/4"};
            for (int i = 0; i < 27; i++) {
                boolean[] fits = {i / 9 == 0, i / 3 % 3 == 1, i % 3 == 2};
                String text = parts[i / 9] + parts[i / 3 % 3] + parts[i % 3];
                int bad = !fits[0] ? 0 : !fits[1] ? 2 : !fits[2] ? 4 : -1;
                Check.error(text, bad < 0 ? PartSongDesk.RIGHT : PartSongDesk.HEADER, bad);
            }
        });
        Check.sentence("A body is a row of NOTEs, RESTs, CLEFs, BARs and repeats, perhaps empty.", () -> {
            Check.right(H, 0);
            Check.right(H + "0h", 1);
            Check.right(H + "rh", 1);
            Check.right(H + "@F", 0);
            Check.right(H + "[]2", 0);
            Check.right(H + "0h|@Frh|[0h|]2@C[]3", 4);
            Check.error(H + "|", PartSongDesk.SHORT, AT);
        });
        Check.sentence("A repeat is OPEN, a body, perhaps endings, and CLOSE.", () -> {
            Check.right(H + "[]2", 0);
            Check.right(H + "[0h|]2", 2);
            Check.right(H + "[0h|(1:)(2:)]2", 2);
            Check.right(H + "[(1:0h|)(2:0h|)]2", 2);
            Check.error(H + "[(1:)(2:)0h|]2", PartSongDesk.UNEXPECTED, AT + 9);
        });
        Check.sentence("Endings are one or more of: FIRST_OF, a body without repeats, LAST_OF.", () -> {
            Check.error(H + "[(1:)]2", PartSongDesk.ENDINGS, AT + 5);
            Check.right(H + "[(1:)(2:)]2", 0);
            Check.right(H + "[(1:)(2:)(3:)]3", 0);
            Check.right(H + "[(1:)(2:)(3:)(4:)]4", 0);
            Check.right(H + "[(1:0h|rh|@F0h|@G)(2:)]2", 3);
            Check.error(H + "[(1:[]2)(2:)]2", PartSongDesk.UNEXPECTED, AT + 4);
        });
        Check.sentence("A repeat within the body of another one is one deeper; at most 3 are one within another.", () -> {
            Check.right(H + "[[[]2]2]2", 0);
            Check.error(H + "[[[[]2]2]2]2", PartSongDesk.DEEP, AT + 3);
            Check.right(H + "[]2".repeat(18), 0);
            Check.right(H + "[[]2[]2[]2]2[[]2[[]2]2]2", 0);
            Check.right(H + "[[[]2[]2(1:)(2:)]2[[]2]2]2", 0);
            Check.error(H + "[[[]2[[", PartSongDesk.DEEP, AT + 6);
        });
    }

    private static void errors() {
        Check.sentence("HEADER at the token that is not the CLEF, KEY or METER that should be there.", () -> {
            String[] all = {"@G", "#0", "M2/4", "0h", "rh", "|", "[", "]2", "(1:", ")"};
            for (int i = 0; i < all.length; i++) {
                Check.error(" " + all[i] + " ", PartSongDesk.HEADER, i == 0 ? 4 : 1);
                Check.error("@G " + all[i], PartSongDesk.HEADER, i == 1 ? 5 : 3);
                Check.error("@G#0 " + all[i], i == 2 ? PartSongDesk.RIGHT : PartSongDesk.HEADER, i == 2 ? PartSongDesk.NONE : 5);
            }
        });
        Check.sentence("UNEXPECTED at a KEY or METER behind the header", () -> {
            for (String bad : new String[] {"#0", "b7", "M2/4", "M1/8"}) {
                Check.error(H + bad, PartSongDesk.UNEXPECTED, AT);
                Check.error(H + "0h|" + bad, PartSongDesk.UNEXPECTED, AT + 3);
                Check.error(H + "[" + bad, PartSongDesk.UNEXPECTED, AT + 1);
                Check.error(H + "[(1:" + bad, PartSongDesk.UNEXPECTED, AT + 4);
                Check.error(H + "[(1:)" + bad, PartSongDesk.UNEXPECTED, AT + 5);
                Check.error(H + "[]2" + bad, PartSongDesk.UNEXPECTED, AT + 3);
            }
        });
        Check.sentence("at a CLOSE or LAST_OF that closes nothing (a CLOSE within an ending as well)", () -> {
            Check.error(H + "]2", PartSongDesk.UNEXPECTED, AT);
            Check.error(H + "[]2]2", PartSongDesk.UNEXPECTED, AT + 3);
            Check.error(H + "[[[]2]2]2]2", PartSongDesk.UNEXPECTED, AT + 9);
            Check.error(H + ")", PartSongDesk.UNEXPECTED, AT);
            Check.error(H + "[)", PartSongDesk.UNEXPECTED, AT + 1);
            Check.error(H + "[[(1:)(2:)]2)", PartSongDesk.UNEXPECTED, AT + 12);
            Check.error(H + "[(1:))", PartSongDesk.UNEXPECTED, AT + 5);
            Check.error(H + "[(1:]2", PartSongDesk.UNEXPECTED, AT + 4);
            Check.error(H + "[(1:)(2:]2", PartSongDesk.UNEXPECTED, AT + 8);
        });
        Check.sentence("at a FIRST_OF outside of all repeats, or within an ending", () -> {
            Check.error(H + "(1:", PartSongDesk.UNEXPECTED, AT);
            Check.error(H + "[]2(1:", PartSongDesk.UNEXPECTED, AT + 3);
            Check.error(H + "[(1:(1:", PartSongDesk.UNEXPECTED, AT + 4);
            Check.error(H + "[(1:(2:", PartSongDesk.UNEXPECTED, AT + 4);
            Check.right(H + "[[]2(1:)(2:)]2", 0);
        });
        Check.sentence("at an OPEN within an ending", () -> {
            Check.error(H + "[(1:[", PartSongDesk.UNEXPECTED, AT + 4);
            Check.error(H + "[[(1:)(2:[", PartSongDesk.UNEXPECTED, AT + 9);
            Check.error(H + "[(1:0h|[", PartSongDesk.UNEXPECTED, AT + 7);
        });
        Check.sentence("at any other token than FIRST_OF or CLOSE behind a LAST_OF, within a repeat", () -> {
            for (String bad : new String[] {"@G", "#0", "M2/4", "0h", "rh", "|", "[", ")"}) {
                Check.error(H + "[(1:)" + bad, PartSongDesk.UNEXPECTED, AT + 5);
                Check.error(H + "[[(1:)(2:)]2(1:)(2:)" + bad, PartSongDesk.UNEXPECTED, AT + 20);
            }
            for (String good : new String[] {"@G", "0h", "rh", "[]2"}) {
                Check.error(H + "[(1:)(2:)]2" + good, PartSongDesk.RIGHT, PartSongDesk.NONE);
                Check.error(H + "[[(1:)(2:)]2" + good + "]2", good.contains("h") ? PartSongDesk.LONG : PartSongDesk.RIGHT, good.contains("h") ? AT + 12 : PartSongDesk.NONE);
            }
        });
        Check.sentence("DEEP at the OPEN of a fourth repeat one within another.", () -> {
            Check.error(H + "[[[", PartSongDesk.UNCLOSED, AT + 3);
            Check.error(H + "[[[ [", PartSongDesk.DEEP, AT + 4);
            Check.error(H + "[0h|[0h|[0h|[", PartSongDesk.DEEP, AT + 12);
            Check.error(H + "[[]2[[[", PartSongDesk.DEEP, AT + 6);
        });
        Check.sentence("ENDINGS at a FIRST_OF whose number is not 1 more than that of the ending ahead of it in the repeat (1 for the first one)", () -> {
            for (int first = 1; first <= 4; first++) {
                Check.error(H + "[(" + first + ":", first == 1 ? PartSongDesk.UNCLOSED : PartSongDesk.ENDINGS, first == 1 ? AT + 4 : AT + 1);
                Check.error(H + "[(1:)(" + first + ":", first == 2 ? PartSongDesk.UNCLOSED : PartSongDesk.ENDINGS, first == 2 ? AT + 8 : AT + 5);
                Check.error(H + "[(1:)(2:)(" + first + ":", first == 3 ? PartSongDesk.UNCLOSED : PartSongDesk.ENDINGS, first == 3 ? AT + 12 : AT + 9);
                Check.error(H + "[(1:)(2:)(3:)(" + first + ":", first == 4 ? PartSongDesk.UNCLOSED : PartSongDesk.ENDINGS, first == 4 ? AT + 16 : AT + 13);
                Check.error(H + "[(1:)(2:)(3:)(4:)(" + first + ":", PartSongDesk.ENDINGS, AT + 17);
                // another repeat begins anew, and the outer one goes on with its own
                Check.error(H + "[[(1:)(2:)]2(" + first + ":", first == 1 ? PartSongDesk.UNCLOSED : PartSongDesk.ENDINGS, first == 1 ? AT + 15 : AT + 12);
                Check.error(H + "[(1:)(2:)]2[(" + first + ":", first == 1 ? PartSongDesk.UNCLOSED : PartSongDesk.ENDINGS, first == 1 ? AT + 15 : AT + 12);
            }
        });
        Check.sentence("at a CLOSE of a repeat with endings if its times are not the number of the last one", TextEdgeTest::timesOfEndings);
        Check.sentence("UNCLOSED at the end of the text, if a repeat or an ending is open", () -> {
            Check.error(H + "[", PartSongDesk.UNCLOSED, AT + 1);
            Check.error(H + "[  ", PartSongDesk.UNCLOSED, AT + 3);
            Check.error(H + "[[]2", PartSongDesk.UNCLOSED, AT + 4);
            Check.error(H + "[(1:", PartSongDesk.UNCLOSED, AT + 4);
            Check.error(H + "[(1:)", PartSongDesk.UNCLOSED, AT + 5);
            Check.error(H + "[(1:)(2:)", PartSongDesk.UNCLOSED, AT + 9);
            Check.error(H + "[" + " ".repeat(151), PartSongDesk.UNCLOSED, 160);
        });
        Check.sentence("at the end, too, HEADER, if the header is not whole", () -> {
            Check.error("", PartSongDesk.HEADER, 0);
            Check.error("@G", PartSongDesk.HEADER, 2);
            Check.error("@G#0", PartSongDesk.HEADER, 4);
            Check.error("@G#0  ", PartSongDesk.HEADER, 6);
            Check.right("@G#0M2/4", 0);
        });
    }

    private static void timesOfEndings() {
        StringBuilder endings = new StringBuilder("[");
        for (int last = 1; last <= 4; last++) {
            endings.append('(').append(last).append(":)");
            for (int times = 2; times <= 4; times++) {
                boolean fits = times == last;
                Check.error(H + endings + "]" + times, fits ? PartSongDesk.RIGHT : PartSongDesk.ENDINGS, fits ? PartSongDesk.NONE : AT + endings.length());
            }
        }
        for (int times = 2; times <= 4; times++) {
            Check.right(H + "[]" + times, 0);
        }
    }

    private static void orders() {
        Check.sentence("The first error, if the tokens are read from the left to the right (at one token the one that is listed first)", () -> {
            Check.error("#0]2", PartSongDesk.HEADER, 0);
            Check.error("@G)M2/4", PartSongDesk.HEADER, 2);
            Check.error("@G#0(2:", PartSongDesk.HEADER, 4);
            Check.error(H + "[[[(1:[", PartSongDesk.UNEXPECTED, AT + 6);
            Check.error(H + "[[[(1:)[", PartSongDesk.UNEXPECTED, AT + 7);
            Check.error(H + "(2:", PartSongDesk.UNEXPECTED, AT);
            Check.error(H + "[(1:(3:", PartSongDesk.UNEXPECTED, AT + 4);
            Check.error(H + "[(1:]3", PartSongDesk.UNEXPECTED, AT + 4);
            Check.error(H + "[[[[]2)", PartSongDesk.DEEP, AT + 3);
            Check.error(H + ")[[[[", PartSongDesk.UNEXPECTED, AT);
            Check.error(H + "[(2:[", PartSongDesk.ENDINGS, AT + 1);
            Check.error(H + "[(1:)]2)", PartSongDesk.ENDINGS, AT + 5);
            Check.error(H + "[[(1:)]2", PartSongDesk.ENDINGS, AT + 6);
        });
        Check.sentence("An error TOKEN is told first of all, wherever it is", () -> {
            for (String ahead : new String[] {"", "#0", "@G", H, H + ")", H + "[[[[", H + "[(2:", H + "[", H + "0w", H + "|", H + "0q~1q"}) {
                Check.error(ahead + " x", PartSongDesk.TOKEN, ahead.length() + 1);
            }
            Check.error(H + ") ".repeat(75) + "0q", PartSongDesk.TOKEN, AT + 57 * 2);
        });
        Check.sentence("one of these ahead of those as it is sung", () -> {
            for (String sung : new String[] {"0w", "|", "0q~1q", "0h|0s|"}) {
                Check.error(H + sung + ")", PartSongDesk.UNEXPECTED, AT + sung.length());
                Check.error(H + sung + "[[[[", PartSongDesk.DEEP, AT + sung.length() + 3);
                Check.error(H + sung + "[(2:", PartSongDesk.ENDINGS, AT + sung.length() + 1);
                Check.error(H + sung + "[", PartSongDesk.UNCLOSED, AT + sung.length() + 1);
            }
        });
    }

    private static void promises() {
        Check.sentence("letter: a character from the space (32) to ~ (126)", () -> {
            PartSongDesk desk = new PartSongDesk();
            for (int letter = 32; letter <= 126; letter++) {
                char c = (char) letter;
                Check.due("write " + letter, () -> desk.write(1, 2, c), c - 31);
            }
            for (int letter : new int[] {0, 9, 10, 31, 127, 128, 255, 256, 32 + 256, 65535}) {
                Check.due("write " + letter, () -> desk.write(1, 2, (char) letter), Check.ARGUMENT);
            }
            Check.due("they are not written", () -> desk.strike(1, 2, 1), 94);
        });
        Check.sentence("many: 1 to 160; as many as there are, if there are fewer", TextEdgeTest::strikes);
        Check.sentence("IllegalStateException if the part is printed, or the text has 160", () -> {
            PartSongDesk desk = Check.with(H);
            desk.print(0, 0);
            Check.due("write into a printed part", () -> desk.write(0, 0, '|'), Check.STATE);
            Check.due("strike a printed part", () -> desk.strike(0, 0, 1), Check.STATE);
            Check.due("its text stays", () -> desk.error(0, 0), PartSongDesk.RIGHT);
            Check.due("its tokens stay", () -> desk.tokens(0, 0), 3);
            Check.write(desk, 0, 1, " ".repeat(159));
            Check.due("the character 160", () -> desk.write(0, 1, ' '), 160);
            Check.due("the character 161", () -> desk.write(0, 1, ' '), Check.STATE);
        });
        Check.sentence("the number of characters, at the end; NONE if it is RIGHT", () -> {
            Check.error("", PartSongDesk.HEADER, 0);
            Check.error(H + "[", PartSongDesk.UNCLOSED, 9);
            Check.error(H + "0h|0q ", PartSongDesk.SHORT, 14);
            Check.error(H + "[[[0h|]4]3]3[0h|]4 0h ", PartSongDesk.MANY, H.length() + 22);
            Check.right(H + "0h ", 1);
        });
        Check.sentence("the tokens ahead of an error TOKEN, or all", () -> {
            many("x", 0);
            many("", 0);
            many("@Gx", 1);
            many("@G#0 20q M2/4", 2);
            many(H + "0h x 0h", 4);
            many(H + ")[[[[", 8);
            many(H + "0w|", 5);
        });
        Check.sentence("token: 0 for the first one", () -> {
            PartSongDesk desk = Check.with(H + "0q|x");
            int[] want = {PartSongDesk.CLEF, PartSongDesk.KEY, PartSongDesk.METER, PartSongDesk.NOTE, PartSongDesk.BAR};
            for (int token = 0; token < want.length; token++) {
                int t = token;
                Check.due("token " + t, () -> desk.token(0, 0, t), want[t]);
            }
            for (int bad : new int[] {-1, 5, 6, 59, 60, 61, Integer.MIN_VALUE, Integer.MAX_VALUE}) {
                Check.due("token " + bad, () -> desk.token(0, 0, bad), Check.INDEX);
            }
            Check.due("token 0 of an empty text", () -> desk.token(2, 3, 0), Check.INDEX);
            desk.strike(0, 0, 2);
            Check.due("a token that was struck", () -> desk.token(0, 0, 4), Check.INDEX);
        });
    }

    private static void strikes() {
        PartSongDesk desk = Check.with(" ".repeat(160));
        for (int bad : new int[] {0, -1, 161, 320, Integer.MIN_VALUE, Integer.MAX_VALUE}) {
            Check.due("strike " + bad, () -> desk.strike(0, 0, bad), Check.ARGUMENT);
        }
        Check.due("strike 1", () -> desk.strike(0, 0, 1), 159);
        Check.due("strike 158", () -> desk.strike(0, 0, 158), 1);
        Check.due("strike more than there are", () -> desk.strike(0, 0, 2), 0);
        Check.due("strike an empty text", () -> desk.strike(0, 0, 1), 0);
        Check.due("strike 160 of none", () -> desk.strike(0, 0, 160), 0);
        Check.due("write at its beginning", () -> desk.write(0, 0, '@'), 1);
        Check.write(desk, 0, 0, "G");
        Check.due("it is read anew", () -> desk.errorAt(0, 0), 2);
        Check.due("strike as many as there are", () -> desk.strike(0, 0, 2), 0);
        Check.write(desk, 0, 0, " ".repeat(160));
        Check.due("strike all 160", () -> desk.strike(0, 0, 160), 0);
    }

    // ---- what the tests above share

    /** Whether the text behind a beginning is a token of so many characters; an x behind it shows where the reading ends. */
    private static void behind(String ahead, String text, boolean isToken, int length) {
        if (!isToken && !text.isEmpty() && text.charAt(0) == ' ') {
            return;
        }
        PartSongDesk desk = Check.with(ahead + text + "x");
        Check.due("'" + ahead + text + "x' is in error", () -> desk.error(0, 0), PartSongDesk.TOKEN);
        Check.due("'" + ahead + text + "x' is read until", () -> desk.errorAt(0, 0), ahead.length() + (isToken ? length : 0));
    }

    /** The kind of the first token behind the header. */
    private static void kind(String text, int kind) {
        PartSongDesk desk = Check.with(H + text);
        Check.due("the kind of '" + text + "'", () -> desk.token(0, 0, 3), kind);
    }

    private static void many(String text, int tokens) {
        PartSongDesk desk = Check.with(text);
        Check.due("tokens of '" + text + "'", () -> desk.tokens(0, 0), tokens);
    }

    /** The pitch of a text of one bar at its first tick. */
    private static void pitchOf(String text, int pitch) {
        PartSongDesk desk = Check.with(H + text);
        Check.due("the pitch of '" + text + "'", () -> desk.pitch(0, 0, 0, 0), pitch);
    }
}
