/** Promises 1 to 7: texts, their tokens, and the errors of reading and parsing them. */
public final class TextTest {
    private static final String H = "@G#0M2/4";

    public static void main(String[] args) {
        newObject();
        write();
        strike();
        tokenForms();
        notes();
        tokenCount();
        kinds();
        header();
        unexpected();
        deepAndEndings();
        unclosed();
        orderOfErrors();
        Check.end("TextTest");
    }

    private static void newObject() {
        PartSongDesk desk = new PartSongDesk();
        for (int piece = 0; piece < 3; piece++) {
            int p = piece;
            for (int voice = 0; voice < 4; voice++) {
                int v = voice;
                Check.due("error of a new object", () -> desk.error(p, v), PartSongDesk.HEADER);
                Check.due("errorAt of a new object", () -> desk.errorAt(p, v), 0);
                Check.due("tokens of a new object", () -> desk.tokens(p, v), 0);
                Check.due("bars of a new object", () -> desk.bars(p, v), PartSongDesk.NONE);
                Check.due("learned of a new object", () -> desk.learned(11, p, v, 39), 0);
                Check.due("misled of a new object", () -> desk.misled(0, p, v), 0);
            }
            Check.due("judge of a new object", () -> desk.judge(p), PartSongDesk.NO_COPY);
            Check.due("clashes of a new object", () -> desk.clashes(p, 0), 0);
        }
        Check.due("no copy yet", () -> desk.holder(0), Check.INDEX);
        Check.due("no request yet", () -> desk.done(0), Check.INDEX);
        Check.due("no concert yet", () -> desk.concerts(), 0);
        Check.due("nothing to plan", () -> desk.plan(), 0);
        Check.due("the day 0 is first", () -> desk.day(), 1);
    }

    private static void write() {
        PartSongDesk desk = new PartSongDesk();
        Check.due("write", () -> desk.write(0, 0, '@'), 1);
        Check.due("write", () -> desk.write(0, 0, 'G'), 2);
        Check.due("write into another part", () -> desk.write(2, 3, 'x'), 1);
        Check.due("write a space", () -> desk.write(0, 0, ' '), 3);
        Check.due("write a ~", () -> desk.write(0, 0, '~'), 4);
        Check.due("write 31", () -> desk.write(0, 0, (char) 31), Check.ARGUMENT);
        Check.due("write 127", () -> desk.write(0, 0, (char) 127), Check.ARGUMENT);
        Check.due("write 0", () -> desk.write(0, 0, (char) 0), Check.ARGUMENT);
        Check.due("write 65535", () -> desk.write(0, 0, (char) 65535), Check.ARGUMENT);
        Check.due("write 321", () -> desk.write(0, 0, (char) 321), Check.ARGUMENT);
        for (int bad : new int[] {-1, 3, Integer.MIN_VALUE, Integer.MAX_VALUE}) {
            Check.due("write to a piece " + bad, () -> desk.write(bad, 0, (char) 31), Check.INDEX);
        }
        for (int bad : new int[] {-1, 4, Integer.MIN_VALUE, Integer.MAX_VALUE}) {
            Check.due("write to a voice " + bad, () -> desk.write(0, bad, 'x'), Check.INDEX);
            Check.due("write to the voice 2, " + bad, () -> desk.write(2, bad, 'x'), Check.INDEX);
        }
        for (int i = 5; i <= 160; i++) {
            int many = i;
            Check.due("write on", () -> desk.write(0, 0, 'x'), many);
        }
        Check.due("write a letter that is none into a full text", () -> desk.write(0, 0, (char) 31), Check.ARGUMENT);
        Check.due("write letter 161", () -> desk.write(0, 0, 'x'), Check.STATE);
        Check.due("a full text stays", () -> desk.strike(0, 0, 1), 159);
        Check.due("write on again", () -> desk.write(0, 0, 'x'), 160);
        PartSongDesk printed = Check.with(H);
        printed.print(0, 0);
        Check.due("write into a printed part", () -> printed.write(0, 0, ' '), Check.STATE);
        Check.due("a letter that is none into a printed part", () -> printed.write(0, 0, (char) 200), Check.ARGUMENT);
        Check.due("write into a part that is not printed", () -> printed.write(0, 1, ' '), 1);
    }

    private static void strike() {
        PartSongDesk desk = Check.with(H + "0h|0h");
        Check.due("strike 2", () -> desk.strike(0, 0, 2), 11);
        Check.due("error after strike", () -> desk.error(0, 0), PartSongDesk.RIGHT);
        Check.due("bars after strike", () -> desk.bars(0, 0), 1);
        Check.due("strike 0", () -> desk.strike(0, 0, 0), Check.ARGUMENT);
        Check.due("strike -1", () -> desk.strike(0, 0, -1), Check.ARGUMENT);
        Check.due("strike 161", () -> desk.strike(0, 0, 161), Check.ARGUMENT);
        Check.due("strike at a piece 3", () -> desk.strike(3, 0, 0), Check.INDEX);
        Check.due("strike at a voice 4", () -> desk.strike(0, 4, 0), Check.INDEX);
        Check.due("strike at a voice -1", () -> desk.strike(1, -1, 1), Check.INDEX);
        Check.due("strike 1", () -> desk.strike(0, 0, 1), 10);
        Check.due("strike more than there are", () -> desk.strike(0, 0, 160), 0);
        Check.due("strike an empty text", () -> desk.strike(0, 0, 1), 0);
        Check.due("error of what was struck", () -> desk.error(0, 0), PartSongDesk.HEADER);
        Check.write(desk, 0, 0, H);
        Check.due("written anew", () -> desk.error(0, 0), PartSongDesk.RIGHT);
        desk.print(0, 0);
        Check.due("strike a printed part", () -> desk.strike(0, 0, 1), Check.STATE);
        Check.due("strike 0 of a printed part", () -> desk.strike(0, 0, 0), Check.ARGUMENT);
    }

    private static void tokenForms() {
        for (String clef : new String[] {"@G", "@F", "@C"}) {
            Check.error(clef, PartSongDesk.HEADER, 2);
        }
        for (String clef : new String[] {"@", "@A", "@g", "@ G", "G"}) {
            Check.error(clef, PartSongDesk.TOKEN, 0);
        }
        for (char digit = '0'; digit <= '9'; digit++) {
            Check.error("@G#" + digit, digit <= '7' ? PartSongDesk.HEADER : PartSongDesk.TOKEN, digit <= '7' ? 4 : 2);
            Check.error("@Gb" + digit, digit <= '7' ? PartSongDesk.HEADER : PartSongDesk.TOKEN, digit <= '7' ? 4 : 2);
            meter("M" + digit + "/4", digit >= '1' && digit <= '4');
            meter("M" + digit + "/8", digit >= '1' && digit <= '8');
            meter("M" + digit + "/2", false);
            body("]" + digit, digit >= '2' && digit <= '4' ? PartSongDesk.UNEXPECTED : PartSongDesk.TOKEN);
            body("(" + digit + ":", digit >= '1' && digit <= '4' ? PartSongDesk.UNEXPECTED : PartSongDesk.TOKEN);
        }
        for (String bad : new String[] {"#", "b", "#a", "B0", "# 0", "M", "M2", "M2/", "M/4", "M2:4", "M24", "M2 /4", "m2/4"}) {
            Check.error("@G" + bad, PartSongDesk.TOKEN, 2);
        }
        for (String bad : new String[] {"]", "](", "(", "(:", "(1", "(1;", "( 1:", "x", "~", ".", "/", ":", "q", "^", "R", "r", "rx", "r.", "r ", "{"}) {
            body(bad, PartSongDesk.TOKEN);
        }
        body("rq~", PartSongDesk.TOKEN, 10);
        body("rs.", PartSongDesk.TOKEN, 10);
        body("rq..", PartSongDesk.TOKEN, 11);
        body("rq.q", PartSongDesk.TOKEN, 11);
        Check.error(" @G  #1   M2/4 rh  x ", PartSongDesk.TOKEN, 19);
        Check.right(" @G  #1   M2/4 rh | ", 1);
    }

    private static void meter(String meter, boolean is) {
        Check.error("@G#0" + meter + ")", is ? PartSongDesk.UNEXPECTED : PartSongDesk.TOKEN, is ? 8 : 4);
    }

    /** What stands behind a header. */
    private static void body(String text, int kind) {
        body(text, kind, 8);
    }

    private static void body(String text, int kind, int at) {
        Check.error(H + text, kind, at);
    }

    private static void notes() {
        for (int place = -12; place <= 25; place++) {
            body(place + "h", place >= -9 && place <= 19 ? PartSongDesk.RIGHT : PartSongDesk.TOKEN, place >= -9 && place <= 19 ? PartSongDesk.NONE : 8);
        }
        for (String good : new String[] {"05h", "-0h", "-05h", "-00h", "00h", "-09h", "^0h", "_-9h", "=19h", "^-09h", "0w", "0h.", "0q", "0q.", "0e", "0e.", "0s", "rw", "rh.", "rq.", "re.", "rs"}) {
            int kind = good.endsWith("w") || good.endsWith("h.") ? PartSongDesk.LONG : PartSongDesk.RIGHT;
            body(good, kind, kind == PartSongDesk.RIGHT ? PartSongDesk.NONE : 8);
        }
        for (String bad : new String[] {"^^0h", "^_0h", "^ 0h", "--1h", "-h", "^h", "0", "05", "-5", "0x", "005h", "0 h", "-10h", "20h", "99h", "^20h", "0H", "+1h", "0~h", "0.", "^r"}) {
            body(bad, PartSongDesk.TOKEN, 8);
        }
        body("0s.", PartSongDesk.TOKEN, 10);
        body("0q..", PartSongDesk.TOKEN, 11);
        body("0q~~", PartSongDesk.TOKEN, 11);
        body("0q~.", PartSongDesk.TOKEN, 11);
        body("0q .", PartSongDesk.TOKEN, 11);
        body("0q 0 q", PartSongDesk.TOKEN, 11);
        body("0s~0s", PartSongDesk.RIGHT, PartSongDesk.NONE);
        body("0q.~0s", PartSongDesk.RIGHT, PartSongDesk.NONE);
    }

    private static void tokenCount() {
        PartSongDesk desk = Check.with("@G#0M4/4");
        Check.due("tokens", () -> desk.tokens(0, 0), 3);
        Check.write(desk, 0, 0, "rs".repeat(16) + "|" + "rs".repeat(16) + "|" + "rs".repeat(16) + "|" + "rs".repeat(6));
        Check.due("60 tokens", () -> desk.tokens(0, 0), 60);
        Check.due("error of 60 tokens", () -> desk.error(0, 0), PartSongDesk.SHORT);
        Check.write(desk, 0, 0, "   ");
        Check.due("spaces behind 60 tokens", () -> desk.error(0, 0), PartSongDesk.SHORT);
        Check.write(desk, 0, 0, "rs");
        Check.due("the 61st token", () -> desk.error(0, 0), PartSongDesk.TOKEN);
        Check.due("where the 61st token is", () -> desk.errorAt(0, 0), 8 + 99 + 12 + 3);
        Check.due("tokens ahead of the 61st", () -> desk.tokens(0, 0), 60);
        Check.due("the token 59", () -> desk.token(0, 0, 59), PartSongDesk.REST);
        Check.due("the token 60", () -> desk.token(0, 0, 60), Check.INDEX);
        PartSongDesk bad = Check.with("@G#0 x M2/4");
        Check.due("tokens ahead of an error", () -> bad.tokens(0, 0), 2);
        Check.due("the token behind an error", () -> bad.token(0, 0, 2), Check.INDEX);
        Check.due("tokens of a piece 3", () -> bad.tokens(3, 0), Check.INDEX);
        Check.due("tokens of a voice 4", () -> bad.tokens(0, 4), Check.INDEX);
        Check.due("error of a piece -1", () -> bad.error(-1, 0), Check.INDEX);
        Check.due("error of a voice 4", () -> bad.error(2, 4), Check.INDEX);
        Check.due("errorAt of a piece 3", () -> bad.errorAt(3, 0), Check.INDEX);
        Check.due("errorAt of a voice -1", () -> bad.errorAt(1, -1), Check.INDEX);
    }

    private static void kinds() {
        PartSongDesk desk = Check.with("@Gb7M9/4");
        Check.due("tokens ahead of a bad meter", () -> desk.tokens(0, 0), 2);
        desk.strike(0, 0, 4);
        Check.write(desk, 0, 0, "M2/4 ^0h|rh|@C[(1:)(2:)]2");
        int[] want = {PartSongDesk.CLEF, PartSongDesk.KEY, PartSongDesk.METER, PartSongDesk.NOTE, PartSongDesk.BAR, PartSongDesk.REST, PartSongDesk.BAR,
            PartSongDesk.CLEF, PartSongDesk.OPEN, PartSongDesk.FIRST_OF, PartSongDesk.LAST_OF, PartSongDesk.FIRST_OF, PartSongDesk.LAST_OF, PartSongDesk.CLOSE};
        Check.due("tokens", () -> desk.tokens(0, 0), want.length);
        for (int i = 0; i < want.length; i++) {
            int token = i;
            Check.due("token " + token, () -> desk.token(0, 0, token), want[token]);
        }
        for (int bad : new int[] {-1, want.length, 60, Integer.MAX_VALUE, Integer.MIN_VALUE}) {
            Check.due("token " + bad, () -> desk.token(0, 0, bad), Check.INDEX);
        }
        Check.due("token of a piece 3", () -> desk.token(3, 0, 0), Check.INDEX);
        Check.due("token of a voice 4", () -> desk.token(0, 4, 0), Check.INDEX);
        Check.due("token of another part", () -> desk.token(0, 1, 0), Check.INDEX);
    }

    private static void header() {
        Check.error("", PartSongDesk.HEADER, 0);
        Check.error("   ", PartSongDesk.HEADER, 3);
        Check.error("@G", PartSongDesk.HEADER, 2);
        Check.error("@G ", PartSongDesk.HEADER, 3);
        Check.error("@G#0", PartSongDesk.HEADER, 4);
        Check.right("@G#0M2/4", 0);
        Check.error("#0", PartSongDesk.HEADER, 0);
        Check.error(" M2/4", PartSongDesk.HEADER, 1);
        Check.error("|@G#0M2/4", PartSongDesk.HEADER, 0);
        Check.error("@G@G#0M2/4", PartSongDesk.HEADER, 2);
        Check.error("@GM2/4#0", PartSongDesk.HEADER, 2);
        Check.error("@G]2", PartSongDesk.HEADER, 2);
        Check.error("@G#0b0M2/4", PartSongDesk.HEADER, 4);
        Check.error("@G#0 0h", PartSongDesk.HEADER, 5);
        Check.error("@G#0[", PartSongDesk.HEADER, 4);
    }

    private static void unexpected() {
        for (String bad : new String[] {"#0", "b1", "M2/4", "]2", ")", "(1:"}) {
            body(bad, PartSongDesk.UNEXPECTED);
            body("0h|" + bad, PartSongDesk.UNEXPECTED, 11);
        }
        for (String bad : new String[] {"#0", "M2/4", ")"}) {
            body("[" + bad, PartSongDesk.UNEXPECTED, 9);
        }
        for (String bad : new String[] {"#0", "M2/4", "(1:", "(2:", "[", "]2"}) {
            body("[(1:" + bad, PartSongDesk.UNEXPECTED, 12);
        }
        for (String bad : new String[] {"#0", "M2/4", "0h", "rh", "@G", "|", "[", ")"}) {
            body("[(1:)" + bad, PartSongDesk.UNEXPECTED, 13);
        }
        body("[]2]2", PartSongDesk.UNEXPECTED, 11);
        body("[]2)", PartSongDesk.UNEXPECTED, 11);
        body("[]2(1:", PartSongDesk.UNEXPECTED, 11);
        body("[(1:)(2:)]2)", PartSongDesk.UNEXPECTED, 19);
        Check.right(H + "[(1:)(2:)]2 0h|", 1);
        Check.right(H + "[@F0h@G|(1:@C0h|)(2:rh|)]2@C", 4);
    }

    private static void deepAndEndings() {
        body("[[[[", PartSongDesk.DEEP, 11);
        body("[[[]2[[", PartSongDesk.DEEP, 14);
        Check.right(H + "[[[]2[]3]4[[]2]2]2[[[]2]2]2", 0);
        body("[[[(1:[", PartSongDesk.UNEXPECTED, 14);
        body("[[[(1:)[", PartSongDesk.UNEXPECTED, 15);
        body("[(2:", PartSongDesk.ENDINGS, 9);
        body("[0h|(3:", PartSongDesk.ENDINGS, 12);
        body("[(1:)(1:", PartSongDesk.ENDINGS, 13);
        body("[(1:)(3:", PartSongDesk.ENDINGS, 13);
        body("[(1:)(2:)(4:", PartSongDesk.ENDINGS, 17);
        body("[(1:)]2", PartSongDesk.ENDINGS, 13);
        body("[(1:)(2:)]3", PartSongDesk.ENDINGS, 17);
        body("[(1:)(2:)(3:)]2", PartSongDesk.ENDINGS, 21);
        Check.right(H + "[(1:)(2:)]2", 0);
        Check.right(H + "[(1:)(2:)(3:)]3", 0);
        Check.right(H + "[(1:)(2:)(3:)(4:)]4", 0);
        Check.right(H + "[[(1:)(2:)]2(1:)(2:)(3:)]3", 0);
        Check.right(H + "[[]4(1:)(2:)]2[(1:)(2:)]2", 0);
        body("[[(1:)(2:)]2(3:", PartSongDesk.ENDINGS, 20);
        body("[[(1:)(2:)]2[(1:)(2:)]2(1:)]2", PartSongDesk.ENDINGS, 35);
    }

    private static void unclosed() {
        body("[", PartSongDesk.UNCLOSED, 9);
        body("[ ", PartSongDesk.UNCLOSED, 10);
        body("[[]2", PartSongDesk.UNCLOSED, 12);
        body("[(1:", PartSongDesk.UNCLOSED, 12);
        body("[(1:)", PartSongDesk.UNCLOSED, 13);
        body("[(1:)(2:)", PartSongDesk.UNCLOSED, 17);
        body("[0h|", PartSongDesk.UNCLOSED, 12);
    }

    private static void orderOfErrors() {
        Check.error("#0 x", PartSongDesk.TOKEN, 3);
        body(")]2 20q", PartSongDesk.TOKEN, 12);
        body("0w x", PartSongDesk.TOKEN, 11);
        body(")[[[[", PartSongDesk.UNEXPECTED, 8);
        body("[[[[)", PartSongDesk.DEEP, 11);
        body("0w]2", PartSongDesk.UNEXPECTED, 10);
        body("0w[", PartSongDesk.UNCLOSED, 11);
        body("0q~[(1:)]2", PartSongDesk.ENDINGS, 16);
        body("|[[[[", PartSongDesk.DEEP, 12);
    }
}
