/** One method for each promise of the document: what is ordinary, the edges that it names, wrong inputs. */
public final class PromiseTest {
    private static final int NONE = UphillOnly.NONE, UNKNOWN = UphillOnly.UNKNOWN, OUTSIDE = UphillOnly.OUTSIDE;
    private static final int NOT = UphillOnly.NOT, FULL = UphillOnly.FULL;
    private static final int LEAST = Integer.MIN_VALUE, MOST = Integer.MAX_VALUE;
    private static final String HILL = "corner 0 1 9;corner 1 5 5;corner 2 9 1;corner 3 30 0;"
            + "paved 0 1 10;paved 1 2 20;stair 2 3 15;level 0 3 50;bridge 0 2 5";
    private static int wrong = 0;

    private static void due(String what, long want, long got) {
        if (got != want) {
            wrong++;
            System.out.println(what + " answered " + got + ", due is " + want);
        }
    }

    private static int tell(UphillOnly x, String text) {
        int length = 0;
        for (int at = 0; at < text.length(); at += 8) {
            int n = Math.min(8, text.length() - at);
            long bytes = 0;
            for (int i = 0; i < n; i++) {
                bytes |= (long) (text.charAt(at + i) & 255) << 8 * i;
            }
            length = x.write(bytes, n);
        }
        return length;
    }

    private static void doText(UphillOnly x, String text) {
        tell(x, text);
        int done = x.town();
        if (done != text.split(";").length) {
            wrong++;
            System.out.println("'" + text + "' was done as " + done + " lines");
        }
    }

    private static UphillOnly townOf(String... texts) {
        UphillOnly x = new UphillOnly();
        for (String text : texts) {
            doText(x, text);
        }
        return x;
    }

    private static void faultOf(UphillOnly x, String text, int want) {
        x.erase();
        tell(x, text);
        due("fault of '" + text + "'", want, x.fault());
        due("length behind fault of '" + text + "'", text.length(), x.count(7));
        x.erase();
    }

    private static void faultAtFirst(String text, int want) {
        faultOf(new UphillOnly(), text, want);
    }

    public static void main(String[] args) {
        promise01NewObject();
        promise02Write();
        promise03Erase();
        promise04FaultInOneLine();
        promise04FaultTokens();
        promise04FaultBehindLines();
        promise05Town();
        promise05TownIsRefusedWhole();
        promise06Corner();
        promise07Street();
        promise08As();
        promise08AsByLaw();
        promise09Go();
        promise10Rest();
        promise11Here();
        promise12And13KeepBack();
        promise14Reach();
        promise15Soonest();
        promise16Home();
        promise17Cut();
        promise18Served();
        promise19Law();
        promise20Rope();
        promise21Mended();
        promise22And23WalkBurn();
        promise24Judge();
        promise25And26SeenForget();
        promise27Sure();
        promise28Count();
        foretoldChangesNothing();
        System.exit(wrong == 0 ? 0 : 1);
    }

    private static void promise01NewObject() {
        due("NONE", -1, UphillOnly.NONE);
        due("UNKNOWN", -2, UphillOnly.UNKNOWN);
        due("OUTSIDE", -3, UphillOnly.OUTSIDE);
        due("NOT", -4, UphillOnly.NOT);
        due("FULL", -5, UphillOnly.FULL);
        UphillOnly x = new UphillOnly();
        int[] first = {4, 0, 0, 60, 0, 0, 0, 0, 0};
        for (int what = 0; what < first.length; what++) {
            due("new count(" + what + ")", first[what], x.count(what));
        }
        for (int corner = 0; corner < 4; corner++) {
            for (int what = 0; what < 3; what++) {
                due("new corner(" + corner + ", " + what + ")", 0, x.corner(corner, what));
            }
        }
        due("new here(0)", 0, x.here(0));
        due("new here(1)", 0, x.here(1));
        due("new back(0)", NOT, x.back(0));
        due("new back(1)", NOT, x.back(1));
    }

    private static void promise02Write() {
        UphillOnly x = new UphillOnly();
        due("write n 0", OUTSIDE, x.write(0, 0));
        due("write n -1", OUTSIDE, x.write(0, -1));
        due("write n 9", OUTSIDE, x.write(0, 9));
        due("write n least", OUTSIDE, x.write(0, LEAST));
        due("write n most", OUTSIDE, x.write(0, MOST));
        due("nothing written", 0, x.count(7));
        due("write u", 1, x.write('u', 1));
        due("write p, of more bytes the first", 2, x.write('p' | 'p' << 8, 1));
        due("up has no fault", NONE, x.fault());
        for (int i = 0; i < 24; i++) {
            due("write row " + i, 10 + 8 * i, x.write(-1L, 8));
        }
        due("byte 255", 2, x.fault());
        due("write beyond 200", FULL, x.write(0, 7));
        due("OUTSIDE ahead of FULL", OUTSIDE, x.write(0, 9));
        due("nothing changed", 194, x.count(7));
        due("write to 200", 200, x.write(0, 6));
        due("write full", FULL, x.write(0, 1));
    }

    private static void promise03Erase() {
        UphillOnly x = new UphillOnly();
        due("erase nothing", 0, x.erase());
        tell(x, "half 20");
        due("erase", 7, x.erase());
        due("erased", 0, x.count(7));
        due("fault of an empty text", 0, x.fault());
        due("erase again", 0, x.erase());
        tell(x, "even");
        due("new text alone", 1, x.town());
        due("half as before", 60, x.count(3));
    }

    private static void promise04FaultInOneLine() {
        String[] good = {"town 2", "town 8", "corner 0 0 0", "corner 3 99 99", "stuck 0", "stuck 3", "free 3",
            "paved 0 1 1", "level 3 0 99", "stair 1 2 099", "bridge 2 1 5", "half 10", "half 999", "up", "even",
            "down", "errand 0 3", "idle", "town 008", "corner 003 09 099"};
        for (String text : good) {
            faultAtFirst(text, NONE);
        }
        faultAtFirst("", 0);
        faultAtFirst("town", 4);
        faultAtFirst("town 1", 5);
        faultAtFirst("town 9", 5);
        faultAtFirst("town 0002", 5);
        faultAtFirst("town x", 5);
        faultAtFirst("town;", 4);
        faultAtFirst("town 3 3", 7);
        faultAtFirst("corner 4 0 0", 7);
        faultAtFirst("corner 3 100 0", 9);
        faultAtFirst("corner 3 0 100", 11);
        faultAtFirst("corner 3 0", 10);
        faultAtFirst("corner 3 0;up", 10);
        faultAtFirst("stuck 4", 6);
        faultAtFirst("free", 4);
        faultAtFirst("free 4", 5);
        faultAtFirst("paved 4 0 1", 6);
        faultAtFirst("paved 0 4 1", 8);
        faultAtFirst("paved 2 2 1", 8);
        faultAtFirst("level 2 3 0", 10);
        faultAtFirst("stair 2 3 100", 10);
        faultAtFirst("bridge 2 3", 10);
        faultAtFirst("half 9", 5);
        faultAtFirst("half 1000", 5);
        faultAtFirst("half 09", 5);
        faultAtFirst("up 0", 3);
        faultAtFirst("even up", 5);
        faultAtFirst("errand 1 1", 9);
        faultAtFirst("errand 01 1", 10);
        faultAtFirst("errand 1 4", 9);
        faultAtFirst("errand 4 1", 7);
        faultAtFirst("errand", 6);
        faultAtFirst("errand 1 2 3", 11);
        faultAtFirst("idle 0", 5);
    }

    private static void promise04FaultTokens() {
        faultAtFirst("upp", 0);
        faultAtFirst("upz", 0);
        faultAtFirst("upa", 0);
        faultAtFirst("up`", 2);
        faultAtFirst("up{", 2);
        faultAtFirst("half 20/", 7);
        faultAtFirst("half 20:", 7);
        faultAtFirst("half 59", NONE);
        faultAtFirst("u p", 0);
        faultAtFirst("Up", 0);
        faultAtFirst("uP", 0);
        faultAtFirst("7", 0);
        faultAtFirst("up.", 2);
        faultAtFirst("up\t", 2);
        faultAtFirst("up \u00ff", 3);
        faultAtFirst("up\0", 2);
        faultAtFirst("half -20", 5);
        faultAtFirst("half 2 0", 5);
        faultAtFirst("half 20 0", 8);
        faultAtFirst("  half   20  ", NONE);
        faultAtFirst(" up ; even ", NONE);
        faultAtFirst("half20", NONE);
        faultAtFirst("half20up", 6);
        faultAtFirst("   ", 3);
        faultAtFirst("half  ", 6);
        faultAtFirst("up; ", 4);
        faultAtFirst(";", 0);
        faultAtFirst(" ;up", 1);
        faultAtFirst("up;;up", 3);
        faultAtFirst("half 999999999999999999999", 5);
        faultAtFirst(" ".repeat(200), 200);
        faultAtFirst("u".repeat(200), 0);
        faultAtFirst("half " + "0".repeat(195), 5);
        faultAtFirst(" ".repeat(198) + "up", NONE);
        faultAtFirst("half 10" + " ".repeat(193), NONE);
        faultAtFirst(" ".repeat(199) + ";", 199);
    }

    private static void promise04FaultBehindLines() {
        faultAtFirst("town 8;stuck 7", NONE);
        faultAtFirst("stuck 7;town 8", 6);
        faultAtFirst("town 2;errand 1 2", 16);
        faultAtFirst("town 2;town 3;errand 1 2", NONE);
        faultAtFirst("up;up;up;up;up;up;up;up;up;up;up;up", NONE);
        faultAtFirst("up;up;up;up;up;up;up;up;up;up;up;up;up", 35);
        faultAtFirst("up;up;up;up;up;up;up;up;up;up;up;up ;", 36);
        UphillOnly x = new UphillOnly();
        doText(x, "level 0 1 1;level 0 1 1;level 0 1 1;level 0 1 1;level 0 1 1;level 0 1 1");
        doText(x, "level 0 1 1;level 0 1 1;level 0 1 1;level 0 1 1;level 0 1 1");
        faultOf(x, "up;paved 0 1 1", NONE);
        faultOf(x, "up;paved 0 1 1;bridge x", 15);
        doText(x, "stair 0 1 1");
        for (String kind : new String[] {"paved", "level", "stair", "bridge"}) {
            faultOf(x, kind + " 0 1 1", 0);
        }
        faultOf(x, "town 4;paved 0 1 1", NONE);
        doText(x, "errand 0 1;errand 0 1;errand 0 1;errand 0 1;errand 0 1;errand 0 1;errand 0 1");
        faultOf(x, "errand 0 1;errand 0 1", 11);
        faultOf(x, "errand 0 1;idle;errand 0 1", NONE);
        faultOf(x, "errand 0 1;town 2;errand 0 1", NONE);
    }

    private static void promise05Town() {
        UphillOnly x = new UphillOnly();
        due("town of nothing", NOT, x.town());
        doText(x, "corner 1 7 3;stuck 1;stuck 2;free 2;half 15;even;errand 0 1;bridge 1 0 9;corner 1 8 4");
        due("text is empty", 0, x.count(7));
        due("last heights", 8, x.corner(1, 0));
        due("stuck", 2, x.count(8));
        due("half", 15, x.count(3));
        due("law", 1, x.count(2));
        due("errands", 1, x.count(4));
        due("streets", 1, x.count(1));
        doText(x, "town 4");
        int[] first = {4, 0, 0, 60, 0, 0, 0, 0, 0};
        for (int what = 0; what < first.length; what++) {
            due("count(" + what + ") behind town 4", first[what], x.count(what));
        }
        due("height behind town 4", 0, x.corner(1, 0));
        doText(x, "corner 1 7 3;errand 2 1;idle");
        due("idle", 0, x.count(4));
        doText(x, "level 0 3 9;even;errand 2 3");
        x.rest(5);
        x.go(0);
        x.keep(0);
        x.walk(1);
        x.seen(0, 1, 0);
        doText(x, "free 0");
        due("corner behind a text", 0, x.here(0));
        due("law stays behind a text", 1, x.count(2));
        due("street stays behind a text", 9, x.street(0, 3));
        due("minute behind a text", 0, x.here(1));
        due("walk behind a text", 0, x.count(5));
        due("steps behind a text", 0, x.count(6));
        due("kept behind a text", NOT, x.back(0));
        due("heights stay behind a text", 7, x.corner(1, 0));
        doText(x, "level 2 3 9");
        due("errand stays behind a text", 1, x.served());
        UphillOnly y = townOf("down;errand 2 3;level 2 3 9;half 10;stuck 3;corner 3 4 5", "free 0");
        due("law", 2, y.count(2));
        due("errand", 1, y.served());
        due("half", 10, y.count(3));
        due("stuck", 8, y.count(8));
        due("height", 4, y.corner(3, 1));
    }

    private static void promise05TownIsRefusedWhole() {
        UphillOnly x = townOf("level 0 1 5;errand 0 1");
        x.go(0);
        x.keep(1);
        x.walk(2);
        x.seen(0, 1, 1);
        tell(x, "town 2;half 10;stuck 1;down;corner 0 9 9;idle;oops");
        due("town with a fault", NOT, x.town());
        due("text stays", 50, x.count(7));
        int[] as = {4, 1, 0, 60, 1, 1, 1, 50, 0};
        for (int what = 0; what < as.length; what++) {
            due("count(" + what + ") behind a refused town", as[what], x.count(what));
        }
        due("height stays", 0, x.corner(0, 0));
        due("corner stays", 1, x.here(0));
        due("minute stays", 5, x.here(1));
        due("kept stays", 5, x.back(1));
        x.erase();
        doText(x, "up");
        due("drafts leave nothing", 4, x.count(0));
    }

    private static void promise06Corner() {
        UphillOnly x = townOf("town 3;corner 1 12 34;corner 2 99 0;stuck 2");
        due("day", 12, x.corner(1, 0));
        due("night", 34, x.corner(1, 1));
        due("not stuck", 0, x.corner(1, 2));
        due("day of stuck", 99, x.corner(2, 0));
        due("night of stuck", 99, x.corner(2, 1));
        due("stuck", 1, x.corner(2, 2));
        due("no corner", UNKNOWN, x.corner(3, 0));
        due("corner -1", UNKNOWN, x.corner(-1, 0));
        due("UNKNOWN ahead of OUTSIDE", UNKNOWN, x.corner(MOST, 3));
        due("what 3", OUTSIDE, x.corner(0, 3));
        due("what -1", OUTSIDE, x.corner(0, -1));
        doText(x, "corner 2 5 6;free 2");
        due("night of one that is free again", 6, x.corner(2, 1));
    }

    private static void promise07Street() {
        UphillOnly x = townOf("paved 0 1 10;level 1 2 20;stair 2 3 30;bridge 3 0 99");
        int[][] streets = {{0, 1, 0, 10}, {1, 2, 1, 20}, {2, 3, 2, 30}, {3, 0, 3, 99}};
        for (int s = 0; s < 4; s++) {
            for (int what = 0; what < 4; what++) {
                due("street(" + s + ", " + what + ")", streets[s][what], x.street(s, what));
            }
        }
        due("no street", UNKNOWN, x.street(4, 0));
        due("street -1", UNKNOWN, x.street(-1, 0));
        due("UNKNOWN ahead of OUTSIDE", UNKNOWN, x.street(LEAST, 9));
        due("what 4", OUTSIDE, x.street(3, 4));
        due("what -1", OUTSIDE, x.street(3, -1));
    }

    private static void promise08As() {
        UphillOnly x = townOf(HILL);
        int[][] as = {
            {9, 9, NOT, NOT, NOT}, {9, 9, NOT, NOT, NOT}, {8, 8, 8, NOT, NOT},
            {15, NOT, NOT, 15, NOT}, {11, NOT, NOT, 11, 11}};
        for (int s = 0; s < as.length; s++) {
            for (int kind = 0; kind < 5; kind++) {
                due("as(" + s + ", " + kind + ")", as[s][kind], x.as(s, kind));
            }
        }
        due("UNKNOWN ahead of OUTSIDE", UNKNOWN, x.as(5, 5));
        due("street -1", UNKNOWN, x.as(-1, 0));
        due("kind 5", OUTSIDE, x.as(0, 5));
        due("kind -1", OUTSIDE, x.as(0, -1));
        doText(x, "stuck 2;stuck 0");
        due("bridge with stuck screws", 11, x.as(4, 4));
        due("paved 1 2 with 2 stuck", 3, x.as(1, 1));
        doText(x, "town 3;corner 0 10 0;corner 1 30 21;stair 0 1 1;stair 1 2 1");
        due("stair by 20, by 21", 1, x.as(0, 2));
        due("stair from 30 to 0", 0, x.as(1, 2));
        doText(x, "corner 0 5 5;corner 1 5 5;bridge 0 1 1");
        due("stair at one height", 0, x.as(0, 2));
        due("bridge at one height", 10, x.as(2, 4));
        doText(x, "corner 1 6 6;paved 0 1 1");
        due("stair by 1", 3, x.as(0, 2));
        due("bridge by 1", 11, x.as(2, 4));
        due("paved by 1", 3, x.as(3, 1));
    }

    private static void promise08AsByLaw() {
        UphillOnly x = townOf("corner 0 20 50;corner 1 29 50;paved 0 1 1;stair 0 1 1;bridge 0 1 1");
        due("up: higher", 1, x.as(0, 1));
        doText(x, "even");
        due("even: not lower", 1 | 2 | 8, x.as(0, 1));
        due("stair is under no law", 1, x.as(1, 1));
        doText(x, "down");
        due("down: lower by 9", 15, x.as(0, 1));
        due("stair is under no law", 1, x.as(1, 2));
        due("bridge is under no law", 1 | 2 | 8, x.as(2, 4));
        doText(x, "corner 1 30 40");
        due("down: lower by 10", 1 | 8, x.as(0, 1));
        doText(x, "up");
        due("up again", 1 | 8, x.as(0, 1));
    }

    private static void promise09Go() {
        UphillOnly x = townOf(HILL);
        due("no street", UNKNOWN, x.go(5));
        due("street -1", UNKNOWN, x.go(-1));
        due("street not here", NOT, x.go(1));
        due("go up", 10, x.go(0));
        due("there", 1, x.here(0));
        due("not down", NOT, x.go(0));
        due("on", 30, x.go(1));
        due("at", 2, x.here(0));
        due("not up a stair of 21", NOT, x.go(2));
        due("nothing changed", 30, x.here(1));
        x.rest(30);
        due("by night a bridge down", 65, x.go(4));
        due("at 0", 0, x.here(0));
        x.rest(6);
        due("level beyond the night's end", NOT, x.go(3));
        UphillOnly y = townOf("half 10;level 0 1 9;level 0 1 10;level 0 1 11");
        due("longer than a half", NOT, y.go(2));
        due("a whole half", 10, y.go(1));
        due("night then", 1, y.here(2));
        y.rest(1);
        due("to the end", 20, y.go(0));
        y.rest(2);
        due("beyond the end", NOT, y.go(0));
        for (int i = 0; i < 9; i++) {
            y.rest(9999);
        }
        y.rest(99990 - y.here(1));
        due("above 99999", FULL, y.go(1));
        due("NOT ahead of FULL", NOT, y.go(2));
        due("nothing changed", 99990, y.here(1));
        due("99999", 99999, y.go(0));
        due("NOT ahead of FULL, late", NOT, y.go(0));
    }

    private static void promise10Rest() {
        UphillOnly x = new UphillOnly();
        due("rest 0", OUTSIDE, x.rest(0));
        due("rest -1", OUTSIDE, x.rest(-1));
        due("rest 10000", OUTSIDE, x.rest(10000));
        due("rest most", OUTSIDE, x.rest(MOST));
        due("rest least", OUTSIDE, x.rest(LEAST));
        due("rest 1", 1, x.rest(1));
        for (int i = 1; i <= 10; i++) {
            due("rest 9999", 1 + 9999 * i, x.rest(9999));
        }
        due("99991", 99991, x.here(1));
        due("above 99999", FULL, x.rest(9));
        due("OUTSIDE ahead of FULL", OUTSIDE, x.rest(10000));
        due("99999", 99999, x.rest(8));
        due("full", FULL, x.rest(1));
    }

    private static void promise11Here() {
        UphillOnly x = townOf("half 15;level 0 3 4");
        x.go(0);
        int[][] here = {{3, 4, 0, 11}, {3, 14, 0, 1}, {3, 15, 1, 15}, {3, 29, 1, 1}, {3, 30, 0, 15}};
        for (int[] row : here) {
            if (x.here(1) < row[1]) {
                x.rest(row[1] - x.here(1));
            }
            for (int what = 0; what < 4; what++) {
                due("here(" + what + ") at " + row[1], row[what], x.here(what));
            }
        }
        due("here(4)", OUTSIDE, x.here(4));
        due("here(-1)", OUTSIDE, x.here(-1));
    }

    private static void promise12And13KeepBack() {
        UphillOnly x = townOf("level 0 3 4");
        due("keep(2)", UNKNOWN, x.keep(2));
        due("keep(-1)", UNKNOWN, x.keep(-1));
        due("back(2)", UNKNOWN, x.back(2));
        due("back(-1)", UNKNOWN, x.back(-1));
        due("back ahead of keep", NOT, x.back(0));
        due("keep(0)", 0, x.keep(0));
        x.go(0);
        due("keep(1)", 4, x.keep(1));
        x.rest(9);
        due("back(0)", 0, x.back(0));
        due("back at 0", 0, x.here(0));
        due("back at minute 0", 0, x.here(1));
        due("back(1)", 4, x.back(1));
        due("back at 3", 3, x.here(0));
        x.rest(1);
        due("back again", 4, x.back(1));
        x.rest(1);
        due("kept over", 5, x.keep(1));
        due("back to the later", 5, x.back(1));
        x.write('?', 1);
        x.town();
        due("kept behind a refused text", 5, x.back(1));
        x.erase();
        doText(x, "even");
        due("back(0) behind a text", NOT, x.back(0));
        due("back(1) behind a text", NOT, x.back(1));
    }

    private static void promise14Reach() {
        UphillOnly x = townOf(HILL);
        due("reach(0, 0)", 15, x.reach(0, 0));
        due("reach(2, 0)", 4, x.reach(2, 0));
        due("reach(2, 1)", 15, x.reach(2, 1));
        due("no corner", UNKNOWN, x.reach(4, 0));
        due("UNKNOWN ahead of OUTSIDE", UNKNOWN, x.reach(-1, 2));
        due("half 2", OUTSIDE, x.reach(0, 2));
        due("half -1", OUTSIDE, x.reach(0, -1));
        doText(x, "town 4;half 10;level 0 1 4;level 1 2 6;level 2 3 1;level 3 1 7");
        due("to its end", 7, x.reach(0, 0));
        due("two ways", 15, x.reach(1, 1));
    }

    private static void promise15Soonest() {
        UphillOnly x = townOf(HILL);
        due("soonest(0, 2, 0)", 5, x.soonest(0, 2, 0));
        due("waits for the night", 65, x.soonest(2, 0, 0));
        due("waits for the next day", 80, x.soonest(0, 1, 55));
        due("itself", 9999, x.soonest(3, 3, 9999));
        due("late", 10035, x.soonest(3, 2, 9999));
        due("no corner a", UNKNOWN, x.soonest(4, 0, 0));
        due("UNKNOWN ahead of OUTSIDE", UNKNOWN, x.soonest(0, -1, -1));
        due("t -1", OUTSIDE, x.soonest(0, 0, -1));
        due("t 10000", OUTSIDE, x.soonest(0, 0, 10000));
        doText(x, "town 3;half 10;level 0 1 11;level 1 2 10");
        due("never", NONE, x.soonest(0, 1, 0));
        due("a whole half", 20, x.soonest(1, 2, 1));
        due("at once", 10, x.soonest(2, 1, 0));
        doText(x, "town 2;corner 0 0 9;corner 1 9 0;paved 0 1 5");
        due("late in the day", 60, x.soonest(0, 1, 55));
        due("too late in the day: the next one", 125, x.soonest(0, 1, 56));
        due("late in the night", 120, x.soonest(1, 0, 115));
        due("too late in the night: the next one", 185, x.soonest(1, 0, 116));
    }

    private static void promise16Home() {
        UphillOnly x = townOf(HILL);
        due("home(0, 1)", 65, x.home(0, 1));
        due("home(2, 0)", 70, x.home(2, 0));
        due("home(1, 1)", 0, x.home(1, 1));
        due("no a", UNKNOWN, x.home(4, 0));
        due("no b", UNKNOWN, x.home(0, -1));
        doText(x, "town 3;corner 1 5 5;paved 0 1 5");
        due("there only", NONE, x.home(0, 1));
        due("not there", NONE, x.home(1, 0));
        due("no way", NONE, x.home(0, 2));
    }

    private static void promise17Cut() {
        UphillOnly x = townOf("town 3;corner 0 0 9;corner 1 5 5;corner 2 9 0;paved 0 1 5;paved 1 2 5");
        due("1 stays as it is", 0, x.cut(1));
        due("0 stuck: not from 1, 2 to it", 2, x.cut(0));
        due("2 stuck: not from it", 2, x.cut(2));
        due("no corner", UNKNOWN, x.cut(3));
        due("corner -1", UNKNOWN, x.cut(-1));
        doText(x, "stuck 0");
        due("stuck already", NOT, x.cut(0));
        due("from the first corner as well", 1, townOf("corner 1 0 9;paved 0 1 5").cut(1));
        due("2 as well", 1, x.cut(2));
        due("nothing is stuck by it", 1, x.count(8));
    }

    private static void promise18Served() {
        UphillOnly x = new UphillOnly();
        due("no errands", 0, x.served());
        doText(x, "half 20;level 0 1 20;level 1 2 20;level 2 3 1");
        doText(x, "errand 0 1;errand 0 2;errand 0 3;errand 3 1;errand 3 0");
        due("by minute 40", 1 | 2 | 8, x.served());
        x.rest(30);
        due("beginning at 0", 1 | 2 | 8, x.served());
    }

    private static void promise19Law() {
        UphillOnly x = townOf("corner 0 9 9;corner 2 5 9;paved 0 1 5;paved 0 2 5");
        due("no errands: the least", 0, x.law(0));
        doText(x, "errand 1 0;errand 0 2;errand 0 1");
        due("down serves most", 2, x.law(0));
        due("three", 3, x.law(1));
        due("law stays", 0, x.count(2));
        doText(x, "idle;errand 1 0;errand 0 2");
        due("even, the least of two", 1, x.law(0));
        due("two", 2, x.law(1));
        doText(x, "down");
        due("even, though down is told", 1, x.law(0));
        due("what 2", OUTSIDE, x.law(2));
        due("what -1", OUTSIDE, x.law(-1));
    }

    private static void promise20Rope() {
        UphillOnly x = townOf("errand 0 1");
        due("no streets", NONE, x.rope(0));
        due("as it is", 0, x.rope(1));
        due("what 2", OUTSIDE, x.rope(2));
        due("what -1", OUTSIDE, x.rope(-1));
        doText(x, "half 10;paved 2 3 5;paved 0 1 5;paved 0 1 11;errand 2 1;errand 1 0;errand 3 2");
        due("the street that helps", 1, x.rope(0));
        due("two", 2, x.rope(1));
        due("it is not kept", 0, x.served());
        doText(x, "idle;errand 2 3;errand 1 0");
        due("of several the least", 0, x.rope(0));
        due("one", 1, x.rope(1));
        doText(x, "idle");
        due("no errands: the least", 0, x.rope(0));
        due("none", 0, x.rope(1));
    }

    private static void promise21Mended() {
        UphillOnly x = townOf("town 8;corner 0 0 9;corner 1 5 5;corner 2 9 0;corner 3 0 9;half 20");
        due("nothing to be served", 0, x.mended(0));
        due("the empty set", 0, x.mended(1));
        doText(x, "paved 0 1 5;paved 2 1 5;stuck 0;stuck 2;stuck 7;errand 1 0");
        due("one", 1, x.mended(0));
        due("screw 0", 1, x.mended(1));
        doText(x, "errand 2 0");
        due("two", 2, x.mended(0));
        due("screws 0, 2", 5, x.mended(1));
        due("they stay stuck", 1 | 4 | 128, x.count(8));
        doText(x, "errand 0 7");
        due("never", NONE, x.mended(0));
        due("no set", NONE, x.mended(1));
        doText(x, "idle;errand 0 1");
        due("served as it is", 0, x.mended(0));
        due("what 2", OUTSIDE, x.mended(2));
        due("what -1", OUTSIDE, x.mended(-1));
        due("all eight", 255, townOf("town 8;stuck 0;stuck 1;stuck 2;stuck 3;stuck 4;stuck 5;stuck 6;stuck 7",
                "corner 0 50 80;corner 2 50 80;corner 4 50 80;corner 6 50 80",
                "corner 1 50 90;corner 3 50 90;corner 5 50 90;corner 7 50 90",
                "stair 0 1 5;stair 2 3 5;stair 4 5 5;stair 6 7 5;errand 0 1;errand 2 3;errand 4 5;errand 6 7").mended(1));
        UphillOnly y = townOf("town 3;corner 0 5 0;corner 1 5 9;paved 0 1 5;stuck 0;stuck 1;errand 0 1");
        due("either would do", 1, y.mended(0));
        due("of several sets the least", 1, y.mended(1));
    }

    private static void promise22And23WalkBurn() {
        UphillOnly x = new UphillOnly();
        due("burn nothing", 0, x.burn());
        due("no corner", UNKNOWN, x.walk(4));
        due("corner -1", UNKNOWN, x.walk(-1));
        for (int i = 1; i <= 12; i++) {
            due("walk " + i, i, x.walk(i & 3));
        }
        due("thirteenth", FULL, x.walk(0));
        due("UNKNOWN ahead of FULL", UNKNOWN, x.walk(4));
        due("twelve", 12, x.count(5));
        due("burn", 12, x.burn());
        due("burnt", 0, x.count(5));
        due("one anew", 1, x.walk(0));
    }

    private static void promise24Judge() {
        UphillOnly x = townOf("town 3;corner 0 0 9;corner 1 5 5;corner 2 9 0;half 15",
                "paved 0 1 3;paved 0 1 2;bridge 1 2 4;stair 0 2 7");
        due("empty", NOT, x.judge(0, 0));
        due("OUTSIDE ahead of NOT: t", OUTSIDE, x.judge(10000, 0));
        due("OUTSIDE ahead of NOT: what", OUTSIDE, x.judge(0, 2));
        x.walk(0);
        due("one corner", NONE, x.judge(9999, 0));
        due("its minute", 9999, x.judge(9999, 1));
        x.walk(1);
        x.walk(2);
        due("all", NONE, x.judge(0, 0));
        due("by the first street", 7, x.judge(0, 1));
        due("the bridge ends too late", 2, x.judge(10, 0));
        due("at the corner ahead", 13, x.judge(10, 1));
        due("the second street fits", NONE, x.judge(13, 0));
        due("to the end of the half", 19, x.judge(13, 1));
        due("by night not up", 1, x.judge(15, 0));
        due("where one began", 15, x.judge(15, 1));
        x.walk(2);
        due("to where one is", 3, x.judge(0, 0));
        due("t -1", OUTSIDE, x.judge(-1, 0));
        due("what -1", OUTSIDE, x.judge(0, -1));
    }

    private static void promise25And26SeenForget() {
        UphillOnly x = new UphillOnly();
        due("forget nothing", 0, x.forget());
        due("no a", UNKNOWN, x.seen(4, 0, 0));
        due("no b", UNKNOWN, x.seen(0, -1, 0));
        due("UNKNOWN ahead of OUTSIDE", UNKNOWN, x.seen(4, 4, 2));
        due("half 2", OUTSIDE, x.seen(0, 1, 2));
        due("half -1", OUTSIDE, x.seen(0, 1, -1));
        due("itself", OUTSIDE, x.seen(1, 1, 0));
        for (int i = 1; i <= 12; i++) {
            due("seen " + i, i, x.seen(i & 3, i + 1 & 3, i & 1));
        }
        due("thirteenth", FULL, x.seen(0, 1, 0));
        due("OUTSIDE ahead of FULL", OUTSIDE, x.seen(1, 1, 0));
        due("UNKNOWN ahead of FULL", UNKNOWN, x.seen(1, 4, 0));
        due("forget", 12, x.forget());
        due("forgotten", 0, x.count(6));
        due("one anew", 1, x.seen(0, 1, 1));
    }

    private static void promise27Sure() {
        UphillOnly x = townOf("town 8;corner 0 99 99");
        due("nothing is sure", 0, x.sure(1, 0, 0));
        due("nothing is against it", 1, x.sure(1, 1, 1));
        x.seen(3, 4, 0);
        x.seen(2, 3, 0);
        x.seen(1, 2, 0);
        x.seen(0, 1, 0);
        due("a chain told backwards", 1, x.sure(0, 4, 0));
        due("not the other way", 0, x.sure(4, 0, 0));
        due("not by night", 0, x.sure(0, 4, 1));
        due("no chain", 0, x.sure(0, 5, 0));
        due("can be", 1, x.sure(7, 7, 0));
        x.seen(4, 0, 1);
        due("can be, by night the other way", 1, x.sure(0, 0, 0));
        due("by night", 1, x.sure(4, 0, 1));
        x.seen(4, 2, 0);
        due("cannot be", 0, x.sure(7, 7, 0));
        due("by night it can", 1, x.sure(7, 7, 1));
        due("round", 1, x.sure(3, 2, 0));
        due("no a", UNKNOWN, x.sure(8, 0, 0));
        due("UNKNOWN ahead of OUTSIDE", UNKNOWN, x.sure(0, -1, 2));
        due("half 2", OUTSIDE, x.sure(0, 1, 2));
        due("half -1", OUTSIDE, x.sure(0, 0, -1));
    }

    private static void promise28Count() {
        UphillOnly x = townOf("town 7;half 33;down;stuck 6;stuck 0;level 0 1 1;level 0 1 1;errand 0 1");
        x.walk(0);
        x.walk(1);
        x.walk(1);
        x.seen(0, 1, 0);
        tell(x, "hello");
        int[] many = {7, 2, 2, 33, 1, 3, 1, 5, 65};
        for (int what = 0; what < many.length; what++) {
            due("count(" + what + ")", many[what], x.count(what));
        }
        due("count(9)", OUTSIDE, x.count(9));
        due("count(-1)", OUTSIDE, x.count(-1));
        due("count(most)", OUTSIDE, x.count(MOST));
    }

    private static void foretoldChangesNothing() {
        UphillOnly x = townOf("half 20;corner 0 5 9;corner 1 9 5;stuck 1;paved 0 1 5;errand 0 1;errand 1 0");
        x.rest(7);
        x.walk(0);
        x.walk(1);
        for (int i = 0; i < 2; i++) {
            due("served", 1, x.served());
            due("law", 1, x.law(0));
            due("rope", 2, x.rope(1));
            due("mended", 2, x.mended(1));
            due("cut", 0, x.cut(0));
            due("reach", 3, x.reach(0, 0));
            due("soonest", 5, x.soonest(0, 1, 0));
            due("home", NONE, x.home(0, 1));
            due("judge", 12, x.judge(7, 1));
            due("as", 1, x.as(0, 1));
            due("minute", 7, x.here(1));
        }
    }
}
