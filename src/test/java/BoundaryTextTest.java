/** The boundary cases of the text: a new object, write, erase, fault, town (promises 1 to 5). */
public final class BoundaryTextTest {
    private static final int NONE = Bench.NONE, UNKNOWN = Bench.UNKNOWN, OUTSIDE = Bench.OUTSIDE;
    private static final int NOT = Bench.NOT, FULL = Bench.FULL, LEAST = Bench.LEAST, MOST = Bench.MOST;
    private static final String[] KINDS = {"paved", "level", "stair", "bridge"};
    private static final String[] WORDS = {"town", "corner", "stuck", "free", "paved", "level", "stair", "bridge",
        "half", "up", "even", "down", "errand", "idle"};

    public static void main(String[] args) {
        promise01NewObject();
        promise01ObjectsShareNothing();
        promise02NumberOfBytes();
        promise02BytesAreTakenFromTheLowest();
        promise02FullAt200();
        promise02RefusedChangesNothing();
        promise03Erase();
        promise03EraseLeavesAllElse();
        for (int n : new int[] {2, 4, 8}) {
            promise04NumbersAtTheirBounds(n);
            promise04LineWithoutItsNumber(n);
            promise04LineWithMoreThanItsOwn(n);
            promise04CornersUnlike(n);
        }
        promise04NumbersOfOneToThreeDigits();
        promise04WordsAsWritten();
        promise04Tokens();
        promise04EndTooSoon();
        promise04TwelveLines();
        promise04CornersBehindTheLinesAhead();
        promise04ThirteenthStreet();
        promise04NinthErrand();
        promise04FirstOfSeveral();
        promise04FaultChangesNothing();
        promise05HowManyLines();
        promise05RefusedChangesNothing();
        promise05LinesInTheirOrder();
        promise05TownIsAllElseAsAtFirst();
        promise05BehindTheLines();
        promise05TextIsEmptyThen();
        promise05ToldStaysBehindTexts();
        Bench.end();
    }

    private static void due(int promise, String what, long want, long got) {
        Bench.due(promise, what, want, got);
    }

    /** Told twice, since it changes nothing; and town() is refused for it, or does the lines. */
    private static void faultOf(UphillOnly x, String text, int want) {
        Bench.tell(x, text);
        due(4, "fault() of '" + text + "'", want, x.fault());
        due(4, "fault() again of '" + text + "'", want, x.fault());
        due(4, "count(7) behind fault() of '" + text + "'", text.length(), x.count(7));
        if (want == NONE) {
            due(5, "town() of '" + text + "'", text.split(";").length, x.town());
        } else {
            due(5, "town() of '" + text + "'", NOT, x.town());
            due(5, "count(7) behind town() of '" + text + "'", text.length(), x.count(7));
        }
    }

    private static void faultAtFirst(String text, int want) {
        faultOf(new UphillOnly(), text, want);
    }

    // ---- promise 1: Four CORNERS, no STREETS; all else as at first.

    private static void promise01NewObject() {
        UphillOnly x = new UphillOnly();
        due(1, "corner(3, 0), the fourth", 0, x.corner(3, 0));
        due(1, "corner(4, 0), a fifth", UNKNOWN, x.corner(4, 0));
        due(1, "street(0, 0)", UNKNOWN, x.street(0, 0));
        due(1, "as(0, 0)", UNKNOWN, x.as(0, 0));
        due(1, "go(0)", UNKNOWN, x.go(0));
        int[] counts = {4, 0, 0, 60, 0, 0, 0, 0, 0};
        for (int what = 0; what < counts.length; what++) {
            due(1, "count(" + what + ")", counts[what], x.count(what));
        }
        int[] here = {0, 0, 0, 60};
        for (int what = 0; what < here.length; what++) {
            due(1, "here(" + what + ")", here[what], x.here(what));
        }
        for (int c = 0; c < 4; c++) {
            for (int what = 0; what < 3; what++) {
                due(1, "corner(" + c + ", " + what + ")", 0, x.corner(c, what));
            }
            due(1, "reach(" + c + ", 0)", 1 << c, x.reach(c, 0));
        }
        due(1, "fault()", 0, x.fault());
        due(1, "back(0)", NOT, x.back(0));
        due(1, "back(1)", NOT, x.back(1));
        due(1, "judge(0, 0)", NOT, x.judge(0, 0));
        due(1, "erase()", 0, x.erase());
        due(1, "burn()", 0, x.burn());
        due(1, "forget()", 0, x.forget());
    }

    private static void promise01ObjectsShareNothing() {
        UphillOnly first = Bench.townOf("town 2;corner 0 1 2;stuck 1;half 10;down;level 0 1 1;errand 0 1");
        first.go(0);
        first.keep(0);
        first.walk(1);
        first.seen(0, 1, 0);
        Bench.tell(first, "up");
        Bench.alike(1, "another object", new UphillOnly(), new UphillOnly());
        promise01NewObject();
        due(1, "the first one's text", 2, first.count(7));
        due(1, "the first one's walker", 1, first.here(1));
    }

    // ---- promise 2: n (1 .. 8) bytes more, byte i being bytes >> 8 i & 255. OUTSIDE; FULL (200 at most).

    private static void promise02NumberOfBytes() {
        int length = 0;
        UphillOnly x = new UphillOnly();
        for (int n : new int[] {1, 2, 7, 8}) {
            length += n;
            due(2, "write(0, " + n + ")", length, x.write(0, n));
        }
        for (int n : new int[] {0, 9, -1, 10, 256, 257, LEAST, MOST}) {
            due(2, "write(0, " + n + ")", OUTSIDE, x.write(0, n));
            due(2, "count(7) behind write(0, " + n + ")", length, x.count(7));
        }
    }

    private static void promise02BytesAreTakenFromTheLowest() {
        UphillOnly x = new UphillOnly();
        x.write('u' | 'p' << 8 | 'x' << 16, 2);
        due(2, "fault() of 'up', with a byte more that is not asked for", NONE, x.fault());
        x.erase();
        for (int high : new int[] {0, 1, 127, 128, 255}) {
            x.write('h' | 'a' << 8 | 'l' << 16 | (long) 'f' << 24, 4);
            x.write(' ' | '1' << 8 | '0' << 16 | (long) high << 24, 3);
            due(2, "fault() ahead of byte " + high, NONE, x.fault());
            x.write((long) high << 56 | 0x20202020202020L, 8);
            due(2, "fault() at byte " + high + ", the eighth of a call", 14, x.fault());
            x.erase();
        }
        x.write(-1L, 8);
        due(2, "fault() of eight bytes 255", 0, x.fault());
        x.erase();
        x.write(-1L << 16 | 'u' | 'p' << 8, 8);
        due(2, "fault() of 'up' and six bytes 255", 2, x.fault());
    }

    private static void promise02FullAt200() {
        for (int n = 1; n <= 8; n++) {
            UphillOnly x = new UphillOnly();
            Bench.tell(x, " ".repeat(200 - n));
            if (n < 8) {
                due(2, "write of " + (n + 1) + " at " + (200 - n), FULL, x.write('u', n + 1));
                due(2, "count(7), refused", 200 - n, x.count(7));
            }
            due(2, "write of " + n + " at " + (200 - n), 200, x.write(0, n));
            for (int more = 1; more <= 8; more++) {
                due(2, "write of " + more + " at 200", FULL, x.write(0, more));
            }
            due(2, "count(7) at 200", 200, x.count(7));
            due(2, "write(0, 0) at 200: OUTSIDE ahead of FULL", OUTSIDE, x.write(0, 0));
            due(2, "write(0, 9) at 200: OUTSIDE ahead of FULL", OUTSIDE, x.write(0, 9));
        }
        UphillOnly x = new UphillOnly();
        Bench.tell(x, " ".repeat(192) + "half 99");
        due(2, "write refused at 199", FULL, x.write('8' | '8' << 8, 2));
        due(2, "write at 199", 200, x.write('9', 1));
        due(2, "fault() of 200 bytes", NONE, x.fault());
        due(2, "town() of 200 bytes", 1, x.town());
        due(2, "H told by the last byte", 999, x.count(3));
        due(2, "write behind it", 8, x.write(0, 8));
    }

    private static void promise02RefusedChangesNothing() {
        for (int n : new int[] {0, 9, -1, LEAST, MOST}) {
            Bench.refused(2, "write(.., " + n + ")", OUTSIDE, BoundaryTextTest::stirred, x -> x.write('5', n));
        }
        Bench.refused(2, "write(.., 8) at 193", FULL, x -> {
            stirred(x);
            x.erase();
            Bench.tell(x, " ".repeat(187) + "half 2");
        }, x -> x.write('5', 8));
    }

    /** An object that holds something of all that it can hold: a town, a walker, kept ones, a walk, steps, a text. */
    private static void stirred(UphillOnly x) {
        Bench.done(x, "town 5;corner 0 1 9;corner 1 5 5;corner 2 9 1;half 20;stuck 2;even");
        Bench.done(x, "paved 0 1 7;stair 1 2 5;level 0 2 6;bridge 2 3 4;errand 0 2;errand 2 0");
        x.keep(0);
        x.go(2);
        x.keep(1);
        x.rest(3);
        x.walk(0);
        x.walk(1);
        x.walk(2);
        x.seen(0, 1, 0);
        x.seen(2, 1, 1);
        Bench.tell(x, "half 25;stuck 3");
    }

    // ---- promise 3: THE TEXT is empty: how many bytes it had.

    private static void promise03Erase() {
        for (int length : new int[] {0, 1, 8, 199, 200}) {
            UphillOnly x = new UphillOnly();
            Bench.tell(x, "u".repeat(length));
            due(3, "erase() of " + length, length, x.erase());
            due(3, "count(7) then", 0, x.count(7));
            due(3, "fault() then", 0, x.fault());
            due(3, "town() then", NOT, x.town());
            due(3, "erase() of nothing", 0, x.erase());
            due(3, "write then", 2, x.write('u' | 'p' << 8, 2));
            due(3, "fault() of it alone", NONE, x.fault());
            Bench.tell(x, ";".repeat(198));
            due(3, "all 200 again", 200, x.count(7));
        }
    }

    private static void promise03EraseLeavesAllElse() {
        UphillOnly twin = new UphillOnly();
        UphillOnly x = new UphillOnly();
        stirred(twin);
        stirred(x);
        due(3, "erase()", 15, x.erase());
        Bench.tell(x, "half 25;stuck 3");
        Bench.alike(3, "erase(), and the text told anew", twin, x);
    }

    // ---- promise 4: the place of the FAULT, or NONE.

    private static int[][] boundsOf(String word, int n) {
        int[] corner = {0, n - 1};
        switch (word) {
            case "town": return new int[][] {{2, 8}};
            case "corner": return new int[][] {corner, {0, 99}, {0, 99}};
            case "stuck": case "free": return new int[][] {corner};
            case "half": return new int[][] {{10, 999}};
            case "errand": return new int[][] {corner, corner};
            case "up": case "even": case "down": case "idle": return new int[0][];
            default: return new int[][] {corner, corner, {1, 99}};
        }
    }

    private static boolean joinsCorners(String word) {
        return word.equals("errand") || java.util.Arrays.asList(KINDS).contains(word);
    }

    /** The line's first numbers that can stand there, the corners of a street or an errand unlike. */
    private static String goodLine(String word, int[][] bounds, int numbers) {
        StringBuilder line = new StringBuilder(word);
        for (int i = 0; i < numbers; i++) {
            line.append(' ').append(joinsCorners(word) && i == 1 ? bounds[i][1] : bounds[i][0]);
        }
        return line.toString();
    }

    private static String behind(String word, int[][] bounds, int from) {
        String all = goodLine(word, bounds, bounds.length);
        return all.substring(goodLine(word, bounds, from).length());
    }

    /** In the same text behind 'town n', and in a text of its own behind one. */
    private static void faultInTownOf(int n, String line, int want) {
        faultOf(Bench.townOf("town " + n), line, want);
        faultAtFirst("town " + n + ";" + line, want == NONE ? NONE : want + 7);
    }

    private static void promise04NumbersAtTheirBounds(int n) {
        for (String word : WORDS) {
            int[][] bounds = boundsOf(word, n);
            for (int i = 0; i < bounds.length; i++) {
                String ahead = goodLine(word, bounds, i) + " ";
                String behind = behind(word, bounds, i + 1);
                int place = ahead.length();
                // The second corner's least one would be the first corner itself.
                int least = joinsCorners(word) && i == 1 ? 1 : bounds[i][0];
                String first = joinsCorners(word) && i == 0 ? " " + (n == 2 ? 0 : 1) + behind.substring(2) : behind;
                faultInTownOf(n, ahead + least + behind, NONE);
                faultInTownOf(n, ahead + bounds[i][1] + first, NONE);
                faultInTownOf(n, ahead + (bounds[i][0] - 1) + behind, place);
                faultInTownOf(n, ahead + (bounds[i][1] + 1) + behind, place);
                faultInTownOf(n, ahead + "0000" + behind, place);
                faultInTownOf(n, ahead + "1000" + behind, place);
                faultInTownOf(n, ahead + "4294967298" + behind, place);
            }
        }
    }

    private static void promise04LineWithoutItsNumber(int n) {
        for (String word : WORDS) {
            int[][] bounds = boundsOf(word, n);
            for (int i = 0; i < bounds.length; i++) {
                String ahead = goodLine(word, bounds, i);
                faultInTownOf(n, ahead, ahead.length());
                faultInTownOf(n, ahead + " ", ahead.length() + 1);
                faultInTownOf(n, ahead + ";up", ahead.length());
                faultInTownOf(n, ahead + " up", ahead.length() + 1);
                faultInTownOf(n, ahead + " -", ahead.length() + 1);
                faultInTownOf(n, ahead + " " + (char) 255, ahead.length() + 1);
            }
            faultInTownOf(n, goodLine(word, bounds, bounds.length), NONE);
        }
    }

    private static void promise04LineWithMoreThanItsOwn(int n) {
        for (String word : WORDS) {
            String line = goodLine(word, boundsOf(word, n), boundsOf(word, n).length);
            faultInTownOf(n, line + " 1", line.length() + 1);
            faultInTownOf(n, line + " up", line.length() + 1);
            faultInTownOf(n, line + ".", line.length());
            faultInTownOf(n, line + "\0", line.length());
            faultInTownOf(n, line + ";up", NONE);
            faultInTownOf(n, line + ";", line.length() + 1);
            faultInTownOf(n, line + ";;up", line.length() + 1);
        }
    }

    private static void promise04CornersUnlike(int n) {
        for (String word : new String[] {"paved", "level", "stair", "bridge", "errand"}) {
            String rest = word.equals("errand") ? "" : " 9";
            for (int a = 0; a < n; a++) {
                for (int b = 0; b < n; b++) {
                    String ahead = word + " " + a + " ";
                    faultInTownOf(n, ahead + b + rest, a == b ? ahead.length() : NONE);
                }
            }
            faultInTownOf(n, word + " 1 01" + rest, word.length() + 3);
            faultInTownOf(n, word + " 001 1" + rest, word.length() + 5);
        }
    }

    private static void promise04NumbersOfOneToThreeDigits() {
        faultAtFirst("stuck 3", NONE);
        faultAtFirst("stuck 03", NONE);
        faultAtFirst("stuck 003", NONE);
        faultAtFirst("stuck 0003", 6);
        faultAtFirst("stuck 00000000000000003", 6);
        faultAtFirst("half 099", NONE);
        faultAtFirst("half 0099", 5);
        faultAtFirst("half 1 0", 5);
        faultAtFirst("half 10 0", 8);
        faultAtFirst("half " + "1".repeat(195), 5);
        UphillOnly x = Bench.townOf("half 099;corner 003 07 008");
        due(4, "H of three digits", 99, x.count(3));
        due(4, "HEIGHT of two digits", 7, x.corner(3, 0));
        due(4, "HEIGHT of three digits", 8, x.corner(3, 1));
    }

    private static void promise04WordsAsWritten() {
        for (String word : WORDS) {
            String rest = goodLine(word, boundsOf(word, 4), boundsOf(word, 4).length).substring(word.length());
            faultAtFirst(word + rest, NONE);
            faultAtFirst(word.substring(0, word.length() - 1) + rest, 0);
            faultAtFirst(word.substring(1) + rest, 0);
            faultAtFirst(word + "s" + rest, 0);
            faultAtFirst("a" + word + rest, 0);
            faultAtFirst(word + word + rest, 0);
            faultAtFirst(word.toUpperCase() + rest, 0);
            faultAtFirst(word.substring(0, 1) + word.substring(1).toUpperCase() + rest, 0);
            faultAtFirst(word.substring(0, 1) + " " + word.substring(1) + rest, 0);
            for (int i = 0; i < word.length(); i++) {
                char other = word.charAt(i) == 'z' ? 'a' : (char) (word.charAt(i) + 1);
                faultAtFirst(word.substring(0, i) + other + word.substring(i + 1) + rest, 0);
            }
        }
    }

    private static void promise04Tokens() {
        for (int b = 0; b < 256; b++) {
            boolean letter = b >= 'a' && b <= 'z';
            boolean digit = b >= '0' && b <= '9';
            faultAtFirst("up" + (char) b, letter ? 0 : b == ' ' ? NONE : b == ';' ? 3 : 2);
            faultAtFirst("half 10" + (char) b, digit || b == ' ' ? NONE : b == ';' ? 8 : 7);
            faultAtFirst((char) b + "up", letter ? 0 : b == ' ' ? NONE : 0);
            faultAtFirst("half" + (char) b + "10", letter ? 0 : b == ' ' ? NONE : b >= '1' && b <= '9' || b == '0' ? NONE : 4);
        }
        faultAtFirst("half  10", NONE);
        faultAtFirst("  half 10 ;  up  ", NONE);
        faultAtFirst("town 2up", 6);
        faultAtFirst("half 10\t", 7);
        faultAtFirst("half\t10", 4);
        faultAtFirst("up\n", 2);
        faultAtFirst("up ;; up", 4);
        faultAtFirst("u".repeat(200), 0);
        faultAtFirst(" ".repeat(198) + "up", NONE);
        faultAtFirst(" ".repeat(197) + "upp", 197);
        faultAtFirst(" ".repeat(199) + "u", 199);
    }

    private static void promise04EndTooSoon() {
        faultAtFirst("", 0);
        for (int blanks : new int[] {1, 2, 199, 200}) {
            faultAtFirst(" ".repeat(blanks), blanks);
        }
        faultAtFirst("up;", 3);
        faultAtFirst("up; ", 4);
        faultAtFirst(";", 0);
        faultAtFirst("half", 4);
        faultAtFirst("half ", 5);
        faultAtFirst(" ".repeat(196) + "half", 200);
        faultAtFirst(" ".repeat(195) + "half ", 200);
        faultAtFirst(" ".repeat(197) + "up;", 200);
    }

    private static void promise04TwelveLines() {
        faultAtFirst(Bench.lines(11, "up"), NONE);
        faultAtFirst(Bench.lines(12, "up"), NONE);
        faultAtFirst(Bench.lines(12, "up") + " ", NONE);
        faultAtFirst(Bench.lines(13, "up"), 35);
        faultAtFirst(Bench.lines(12, "up") + ";", 35);
        faultAtFirst(Bench.lines(12, "up") + " ;", 36);
        faultAtFirst(Bench.lines(12, "up") + ";;", 35);
        faultAtFirst(Bench.lines(12, "up") + " x", 36);
        faultAtFirst(Bench.lines(66, "up"), 35);
        faultAtFirst(Bench.lines(11, "up") + ";", 33);
        faultAtFirst(Bench.lines(11, "up") + ";half 9", 38);
    }

    private static void promise04CornersBehindTheLinesAhead() {
        faultAtFirst("stuck 4;town 5", 6);
        faultAtFirst("town 5;stuck 4", NONE);
        faultAtFirst("town 5;stuck 5", 13);
        faultAtFirst("town 3;stuck 3", 13);
        faultAtFirst("town 3;stuck 2", NONE);
        faultAtFirst("town 8;town 2;stuck 2", 20);
        faultAtFirst("town 2;town 8;stuck 7", NONE);
        faultAtFirst("town 8;errand 7 6;town 2;errand 1 2", 34);
        faultAtFirst("town 8;level 7 6 1;town 7;level 6 7 1", 34);
        faultOf(Bench.townOf("town 8"), "corner 7 1 1", NONE);
        faultOf(Bench.townOf("town 8"), "corner 8 1 1", 7);
        faultOf(Bench.townOf("town 2"), "corner 1 1 1", NONE);
        faultOf(Bench.townOf("town 2"), "corner 2 1 1", 7);
        UphillOnly refused = new UphillOnly();
        Bench.tell(refused, "town 8;oops");
        refused.town();
        refused.fault();
        refused.erase();
        faultOf(refused, "stuck 4", 6);
    }

    private static void promise04ThirteenthStreet() {
        for (String kind : KINDS) {
            String street = kind + " 0 1 1";
            int at = street.length() + 1;
            faultOf(Bench.townOf(Bench.lines(11, "level 0 1 1")), street, NONE);
            faultOf(Bench.townOf(Bench.lines(11, "level 0 1 1")), street + ";" + street, at);
            faultOf(Bench.townOf(Bench.lines(10, "level 0 1 1")), street + ";" + street, NONE);
            faultOf(Bench.townOf(Bench.lines(12, "level 0 1 1")), street, 0);
            faultOf(Bench.townOf(Bench.lines(12, "level 0 1 1")), "up ; " + kind, 5);
            faultOf(Bench.townOf(Bench.lines(12, "level 0 1 1")), kind + " 9 9 999", 0);
            faultOf(Bench.townOf(Bench.lines(12, "level 0 1 1")), "town 2;" + street, NONE);
            faultOf(Bench.townOf(Bench.lines(12, "level 0 1 1")), street + ";town 2", 0);
            faultOf(Bench.townOf(Bench.lines(12, street)), "errand 0 1", NONE);
        }
    }

    private static void promise04NinthErrand() {
        faultAtFirst(Bench.lines(8, "errand 0 1"), NONE);
        faultAtFirst(Bench.lines(9, "errand 0 1"), 88);
        faultAtFirst(Bench.lines(8, "errand 0 1") + ";idle;errand 0 1", NONE);
        faultAtFirst(Bench.lines(8, "errand 0 1") + ";town 2;errand 0 1", NONE);
        faultAtFirst(Bench.lines(8, "errand 0 1") + ";errand", 88);
        faultOf(Bench.townOf(Bench.lines(7, "errand 0 1")), "errand 1 0", NONE);
        faultOf(Bench.townOf(Bench.lines(7, "errand 0 1")), "errand 1 0;errand 1 0", 11);
        faultOf(Bench.townOf(Bench.lines(8, "errand 0 1")), "errand 1 0", 0);
        faultOf(Bench.townOf(Bench.lines(8, "errand 0 1")), "idle;errand 1 0", NONE);
        faultOf(Bench.townOf(Bench.lines(8, "errand 0 1")), "errand 1 0;idle", 0);
        faultOf(Bench.townOf(Bench.lines(8, "errand 0 1")), "idle;" + Bench.lines(8, "errand 1 0"), NONE);
        faultOf(Bench.townOf(Bench.lines(8, "errand 0 1")), "idle;" + Bench.lines(9, "errand 1 0"), 93);
        faultOf(Bench.townOf(Bench.lines(8, "errand 0 1")), "level 0 1 1", NONE);
    }

    private static void promise04FirstOfSeveral() {
        faultAtFirst("half 9;town 9", 5);
        faultAtFirst("half 10;town 9;oops", 13);
        faultAtFirst("corner 4 100 100", 7);
        faultAtFirst("corner 3 100 100", 9);
        faultAtFirst("level 4 4 0", 6);
        faultAtFirst("level 3 3 0", 8);
        faultAtFirst("level 3 4 0", 8);
        faultAtFirst("level 3 2 0", 10);
        faultAtFirst("oops 1;oops", 0);
    }

    private static void promise04FaultChangesNothing() {
        for (String text : new String[] {"", "oops", "town 2;stuck 1;half 10;down;idle;level 0 1 1;corner 0 50 60"}) {
            UphillOnly twin = new UphillOnly();
            UphillOnly x = new UphillOnly();
            for (UphillOnly each : new UphillOnly[] {twin, x}) {
                stirred(each);
                each.erase();
                Bench.tell(each, text);
            }
            x.fault();
            x.fault();
            Bench.alike(4, "fault() of '" + text + "'", twin, x);
        }
    }

    // ---- promise 5: THE TEXT's LINES are done, and it is empty then: how many there were. NOT.

    private static void promise05HowManyLines() {
        for (int many = 1; many <= 12; many++) {
            UphillOnly x = new UphillOnly();
            Bench.tell(x, Bench.lines(many, "even"));
            due(5, "town() of " + many + " lines", many, x.town());
            due(5, "LAW", 1, x.count(2));
            due(5, "town() of nothing then", NOT, x.town());
        }
        UphillOnly x = new UphillOnly();
        Bench.tell(x, Bench.lines(13, "even"));
        due(5, "town() of 13 lines", NOT, x.town());
        due(5, "LAW, not told", 0, x.count(2));
    }

    private static void promise05RefusedChangesNothing() {
        String[] texts = {"", " ", "oops", "half 9", "half 10;", "town 2;stuck 1;half 10;down;idle;corner 0 50 60;oops",
            "level 0 1 1;level 0 1 1;errand 0 1;errand 0 1;free 2;errand 4 4", Bench.lines(13, "up"),
            "idle;" + Bench.lines(9, "errand 0 1")};
        for (String text : texts) {
            Bench.refused(5, "town() of '" + text + "'", NOT, x -> {
                stirred(x);
                x.erase();
                Bench.tell(x, text);
            }, UphillOnly::town);
        }
        UphillOnly x = new UphillOnly();
        Bench.tell(x, "half 2");
        due(5, "town() of 'half 2'", NOT, x.town());
        due(5, "write behind it", 7, x.write('5', 1));
        due(5, "town() of 'half 25'", 1, x.town());
        due(5, "H", 25, x.count(3));
    }

    private static void promise05LinesInTheirOrder() {
        due(5, "the later heights", 2, Bench.townOf("corner 0 1 1;corner 0 2 2").corner(0, 0));
        due(5, "stuck, free", 0, Bench.townOf("stuck 1;free 1").count(8));
        due(5, "free, stuck", 2, Bench.townOf("free 1;stuck 1").count(8));
        due(5, "even, up", 0, Bench.townOf("even;up").count(2));
        due(5, "up, down, even", 1, Bench.townOf("up;down;even").count(2));
        due(5, "half, half", 999, Bench.townOf("half 10;half 999").count(3));
        due(5, "half, town", 60, Bench.townOf("half 20;town 2").count(3));
        due(5, "town, half", 20, Bench.townOf("town 2;half 20").count(3));
        due(5, "errand, idle", 0, Bench.townOf("errand 0 1;idle").count(4));
        due(5, "idle, errand", 1, Bench.townOf("idle;errand 0 1").count(4));
        UphillOnly x = Bench.townOf("level 0 1 5;bridge 2 3 6");
        due(5, "first street", 1, x.street(0, 2));
        due(5, "second street", 3, x.street(1, 2));
        UphillOnly y = Bench.townOf("level 0 1 5;errand 0 1;errand 2 3;errand 1 0");
        due(5, "errands in their order", 5, y.served());
    }

    private static void promise05TownIsAllElseAsAtFirst() {
        for (int n = 2; n <= 8; n++) {
            UphillOnly x = Bench.townOf("town 8;half 10;down;corner 0 3 4;corner 1 5 6;corner 7 5 6;stuck 0;stuck 7;errand 0 1;level 0 1 2");
            x.walk(0);
            Bench.done(x, "town " + n);
            UphillOnly fresh = Bench.townOf("town " + n);
            due(5, "town " + n, n, x.count(0));
            due(5, "LAW behind town " + n, 0, x.count(2));
            due(5, "H behind town " + n, 60, x.count(3));
            Bench.alike(5, "a town ahead of 'town " + n + "'", fresh, x);
        }
        UphillOnly x = Bench.townOf("town 8;corner 7 5 6;stuck 7", "town 2", "town 8");
        due(5, "HEIGHT of a corner that came again", 0, x.corner(7, 0));
        due(5, "SCREW of a corner that came again", 0, x.corner(7, 2));
    }

    private static void promise05BehindTheLines() {
        for (String text : new String[] {"up", "idle", "free 0", "town 4", "half 60"}) {
            UphillOnly x = new UphillOnly();
            stirred(x);
            x.erase();
            Bench.done(x, text);
            due(5, "CORNER behind '" + text + "'", 0, x.here(0));
            due(5, "MINUTE behind '" + text + "'", 0, x.here(1));
            due(5, "WALK behind '" + text + "'", 0, x.count(5));
            due(5, "judge behind '" + text + "'", NOT, x.judge(0, 0));
            due(5, "STEPS behind '" + text + "'", 0, x.count(6));
            due(5, "sure behind '" + text + "'", 0, x.sure(0, 1, 0));
            due(5, "back(0) behind '" + text + "'", NOT, x.back(0));
            due(5, "back(1) behind '" + text + "'", NOT, x.back(1));
            due(5, "bytes behind '" + text + "'", 0, x.count(7));
        }
    }

    private static void promise05TextIsEmptyThen() {
        UphillOnly x = Bench.townOf("half 20");
        due(5, "bytes", 0, x.count(7));
        due(5, "fault() of nothing", 0, x.fault());
        due(5, "write of the first byte", 1, x.write('u', 1));
        due(5, "erase()", 1, x.erase());
    }

    private static void promise05ToldStaysBehindTexts() {
        UphillOnly x = Bench.townOf("town 6;corner 5 7 8;stuck 3;level 4 5 9;half 30;down;errand 4 5", "stuck 0");
        due(5, "CORNERS stay", 6, x.count(0));
        due(5, "HEIGHT by DAY stays", 7, x.corner(5, 0));
        due(5, "HEIGHT by NIGHT stays", 8, x.corner(5, 1));
        due(5, "STUCK stays, and one more is", 9, x.count(8));
        due(5, "STREET stays", 9, x.street(0, 3));
        due(5, "H stays", 30, x.count(3));
        due(5, "LAW stays", 2, x.count(2));
        due(5, "ERRAND stays", 1, x.served());
    }
}
