/** The boundary cases of one who walks: go, rest, here, keep, back (promises 9 to 13). */
public final class BoundaryWalkerTest {
    private static final int UNKNOWN = Bench.UNKNOWN, OUTSIDE = Bench.OUTSIDE;
    private static final int NOT = Bench.NOT, FULL = Bench.FULL, LEAST = Bench.LEAST, MOST = Bench.MOST;
    /** Level streets of 1, 2, 9, 10, 11 minutes between 0 and 1, in halves of 10. */
    private static final String SPANS = "half 10;level 0 1 1;level 0 1 2;level 0 1 9;level 0 1 10;level 0 1 11";

    public static void main(String[] args) {
        promise09StreetsThatThereAre();
        promise09NotOfTheCorner();
        promise09OneMayNot();
        promise09EndsInThisHalf();
        promise09ThereAndBack();
        promise09FullAbove99999();
        promise09RefusedChangesNothing();
        promise10NumberOfMinutes();
        promise10FullAbove99999();
        promise10AtAnyCorner();
        promise10RefusedChangesNothing();
        promise11WhatIsAsked();
        promise11HalvesByTurns();
        promise11AtTheLastMinute();
        promise12And13WhichIsKept();
        promise12And13EachOfItsOwn();
        promise12KeptOverAndAtTheLastMinute();
        promise13NothingKeptSinceTheLastText();
        promise12And13RefusedChangesNothing();
        Bench.end();
    }

    private static void due(int promise, String what, long want, long got) {
        Bench.due(promise, what, want, got);
    }

    private static UphillOnly spansAt(int minute) {
        UphillOnly x = Bench.townOf(SPANS);
        Bench.restTo(x, minute);
        return x;
    }

    // ---- promise 9: UNKNOWN; NOT: not of the CORNER, one MAY not, not in this HALF; FULL: above MINUTE 99999.

    private static void promise09StreetsThatThereAre() {
        due(9, "go(0) of no streets", UNKNOWN, new UphillOnly().go(0));
        for (int s : new int[] {-1, 5, 12, LEAST, MOST}) {
            due(9, "go(" + s + ") of five", UNKNOWN, Bench.townOf(SPANS).go(s));
        }
        UphillOnly full = Bench.townOf(Bench.lines(11, "paved 0 1 1") + ";level 0 1 7");
        due(9, "go(12) of twelve", UNKNOWN, full.go(12));
        due(9, "go(10) of twelve", NOT, full.go(10));
        due(9, "go(11) of twelve", 7, full.go(11));
    }

    private static void promise09NotOfTheCorner() {
        UphillOnly x = Bench.townOf("level 1 2 5;level 2 0 6;level 3 1 7");
        due(9, "a street of 1 and 2", NOT, x.go(0));
        due(9, "a street of 3 and 1", NOT, x.go(2));
        due(9, "a street to here, the other way", 6, x.go(1));
        due(9, "at", 2, x.here(0));
        due(9, "a street to here, the other way", 11, x.go(0));
        due(9, "at", 1, x.here(0));
        due(9, "a street of 2 and 0", NOT, x.go(1));
        due(9, "on", 18, x.go(2));
        due(9, "at", 3, x.here(0));
        UphillOnly last = Bench.townOf("town 8;level 0 7 1;level 7 6 1");
        due(9, "to the last corner", 1, last.go(0));
        due(9, "at", 7, last.here(0));
        due(9, "from the last corner", 2, last.go(1));
    }

    private static void promise09OneMayNot() {
        UphillOnly x = Bench.townOf("corner 0 5 5;corner 1 5 6;paved 0 1 1;stair 0 1 1;bridge 0 1 1;half 10");
        for (int s = 0; s < 3; s++) {
            due(9, "by DAY at one height, street " + s, NOT, x.go(s));
        }
        x.rest(9);
        due(9, "the DAY's last minute", NOT, x.go(0));
        x.rest(1);
        for (int s = 0; s < 3; s++) {
            x.keep(0);
            due(9, "by NIGHT by 1, street " + s, 11, x.go(s));
            due(9, "the way down, street " + s, s == 2 ? 12 : NOT, x.go(s));
            x.back(0);
        }
        x.rest(9);
        due(9, "the NIGHT's last minute", 20, x.go(0));
        due(9, "the DAY again", NOT, x.go(2));
        Bench.done(x, "stuck 1");
        x.rest(10);
        due(9, "by NIGHT, STUCK at one height", NOT, x.go(0));
        Bench.done(x, "even");
        due(9, "EVEN, by DAY", 1, x.go(0));
    }

    private static void promise09EndsInThisHalf() {
        int[] minutes = {1, 2, 9, 10, 11};
        for (int t : new int[] {0, 1, 2, 8, 9, 10, 11, 18, 19, 20, 99980, 99981}) {
            for (int s = 0; s < 5; s++) {
                int left = 10 - t % 10;
                due(9, "a street of " + minutes[s] + " at " + t, minutes[s] <= left ? t + minutes[s] : NOT, spansAt(t).go(s));
            }
        }
        UphillOnly x = Bench.townOf("half 99;level 0 1 99");
        due(9, "a whole HALF of 99", 99, x.go(0));
        due(9, "and the next one", 198, x.go(0));
        x.rest(1);
        due(9, "from its second minute", NOT, x.go(0));
        UphillOnly y = Bench.townOf("half 98;level 0 1 99");
        due(9, "99 in a HALF of 98", NOT, y.go(0));
        UphillOnly z = Bench.townOf("half 999;level 0 1 99");
        Bench.restTo(z, 900);
        due(9, "99 to the end of 999", 999, z.go(0));
        Bench.restTo(z, 1900);
        due(9, "99 beyond the end of 1998", NOT, z.go(0));
    }

    private static void promise09ThereAndBack() {
        UphillOnly x = Bench.townOf("level 0 1 1");
        for (int i = 1; i <= 100; i++) {
            due(9, "step " + i, i, x.go(0));
            due(9, "at", i % 2, x.here(0));
        }
    }

    private static void promise09FullAbove99999() {
        due(9, "9 at 99990", 99999, spansAt(99990).go(2));
        due(9, "10 at 99990", FULL, spansAt(99990).go(3));
        due(9, "11 at 99990: NOT ahead of FULL", NOT, spansAt(99990).go(4));
        due(9, "1 at 99998", 99999, spansAt(99998).go(0));
        due(9, "2 at 99998", FULL, spansAt(99998).go(1));
        due(9, "9 at 99998: NOT ahead of FULL", NOT, spansAt(99998).go(2));
        due(9, "1 at 99999", FULL, spansAt(99999).go(0));
        due(9, "2 at 99999: NOT ahead of FULL", NOT, spansAt(99999).go(1));
        due(9, "no street at 99999: UNKNOWN ahead of FULL", UNKNOWN, spansAt(99999).go(5));
        UphillOnly x = Bench.townOf("paved 0 1 1;level 2 1 1");
        Bench.restTo(x, 99999);
        due(9, "one MAY not, at 99999: NOT ahead of FULL", NOT, x.go(0));
        due(9, "not of the CORNER, at 99999: NOT ahead of FULL", NOT, x.go(1));
    }

    private static void stirred(UphillOnly x) {
        Bench.done(x, "town 4;corner 0 1 9;corner 1 5 5;corner 2 9 1;half 20;stuck 2;even");
        Bench.done(x, "paved 0 1 7;stair 1 2 5;level 0 2 16;bridge 2 3 4;errand 0 2;errand 2 0");
        x.keep(0);
        x.go(0);
        x.keep(1);
        x.rest(3);
        x.walk(0);
        x.walk(1);
        x.seen(0, 1, 0);
        Bench.tell(x, "half 25;stuck 3");
    }

    private static void promise09RefusedChangesNothing() {
        Bench.refused(9, "go(4)", UNKNOWN, BoundaryWalkerTest::stirred, x -> x.go(4));
        Bench.refused(9, "go(-1)", UNKNOWN, BoundaryWalkerTest::stirred, x -> x.go(-1));
        Bench.refused(9, "go(3), not of the corner", NOT, BoundaryWalkerTest::stirred, x -> x.go(3));
        Bench.refused(9, "go(0), downhill", NOT, BoundaryWalkerTest::stirred, x -> x.go(0));
        Bench.refused(9, "go(2), not in this half", NOT, x -> {
            stirred(x);
            x.back(0);
            x.rest(5);
        }, x -> x.go(2));
        Bench.refused(9, "go(0) at 99999", FULL, x -> {
            Bench.done(x, SPANS);
            x.keep(1);
            Bench.restTo(x, 99999);
        }, x -> x.go(0));
    }

    // ---- promise 10: One WAITS n MINUTES (1 .. 9999): the MINUTE then. OUTSIDE; FULL.

    private static void promise10NumberOfMinutes() {
        for (int n : new int[] {0, 10000, -1, 10001, LEAST, MOST}) {
            due(10, "rest(" + n + ")", OUTSIDE, new UphillOnly().rest(n));
        }
        UphillOnly x = new UphillOnly();
        due(10, "rest(1)", 1, x.rest(1));
        due(10, "rest(9999)", 10000, x.rest(9999));
        due(10, "rest(9998)", 19998, x.rest(9998));
        due(10, "rest(2)", 20000, x.rest(2));
    }

    private static void promise10FullAbove99999() {
        for (int left : new int[] {1, 2, 9998, 9999}) {
            UphillOnly x = new UphillOnly();
            Bench.restTo(x, 99999 - left);
            if (left < 9999) {
                due(10, "rest to 100000", FULL, x.rest(left + 1));
                due(10, "rest(9999) far above", FULL, x.rest(9999));
            }
            due(10, "here(1)", 99999 - left, x.here(1));
            due(10, "rest to 99999", 99999, x.rest(left));
            due(10, "rest(1) at 99999", FULL, x.rest(1));
            due(10, "rest(9999) at 99999", FULL, x.rest(9999));
            due(10, "rest(0) at 99999: OUTSIDE ahead of FULL", OUTSIDE, x.rest(0));
            due(10, "rest(10000) at 99999: OUTSIDE ahead of FULL", OUTSIDE, x.rest(10000));
            due(10, "here(1)", 99999, x.here(1));
        }
    }

    private static void promise10AtAnyCorner() {
        UphillOnly x = Bench.townOf("town 8;level 0 7 1;corner 7 99 0");
        x.go(0);
        due(10, "rest(9)", 10, x.rest(9));
        due(10, "where one stands", 7, x.here(0));
        due(10, "over the night", 10 + 9999, x.rest(9999));
        due(10, "where one stands", 7, x.here(0));
    }

    private static void promise10RefusedChangesNothing() {
        for (int n : new int[] {0, -1, 10000, LEAST, MOST}) {
            Bench.refused(10, "rest(" + n + ")", OUTSIDE, BoundaryWalkerTest::stirred, x -> x.rest(n));
        }
        Bench.refused(10, "rest(2) at 99998", FULL, x -> {
            stirred(x);
            Bench.restTo(x, 99998);
        }, x -> x.rest(2));
    }

    // ---- promise 11: Where one stands (0), the MINUTE (1), 0 DAY, 1 NIGHT (2), MINUTES left of the HALF (3). OUTSIDE.

    private static void promise11WhatIsAsked() {
        for (int what : new int[] {-1, 4, LEAST, MOST}) {
            due(11, "here(" + what + ")", OUTSIDE, new UphillOnly().here(what));
            Bench.refused(11, "here(" + what + ")", OUTSIDE, BoundaryWalkerTest::stirred, x -> x.here(what));
        }
        UphillOnly x = Bench.townOf("town 8;level 0 7 9");
        x.go(0);
        int[] here = {7, 9, 0, 51};
        for (int what = 0; what < 4; what++) {
            due(11, "here(" + what + ")", here[what], x.here(what));
        }
    }

    private static void promise11HalvesByTurns() {
        for (int half : new int[] {10, 11, 60, 998, 999}) {
            UphillOnly x = Bench.townOf("half " + half);
            for (int t : new int[] {0, 1, half - 1, half, half + 1, 2 * half - 1, 2 * half, 3 * half - 1, 3 * half, 4 * half}) {
                Bench.restTo(x, t);
                due(11, "here(1) at " + t + " of " + half, t, x.here(1));
                due(11, "here(2) at " + t + " of " + half, t / half % 2, x.here(2));
                due(11, "here(3) at " + t + " of " + half, half - t % half, x.here(3));
            }
        }
    }

    private static void promise11AtTheLastMinute() {
        int[] halves = {10, 999, 100, 271};
        int[] nights = {1, 0, 1, 1};
        int[] left = {1, 900, 1, 271};
        for (int i = 0; i < halves.length; i++) {
            UphillOnly x = Bench.townOf("half " + halves[i]);
            Bench.restTo(x, 99999);
            due(11, "here(1) of " + halves[i], 99999, x.here(1));
            due(11, "here(2) of " + halves[i], nights[i], x.here(2));
            due(11, "here(3) of " + halves[i], left[i], x.here(3));
        }
    }

    // ---- promises 12, 13: kept (k 0, 1): the MINUTE. UNKNOWN: no such k; NOT: nothing was kept since the last text.

    private static void promise12And13WhichIsKept() {
        for (int k : new int[] {-1, 2, 32, LEAST, MOST}) {
            UphillOnly x = new UphillOnly();
            due(12, "keep(" + k + ")", UNKNOWN, x.keep(k));
            due(13, "back(" + k + "): UNKNOWN ahead of NOT", UNKNOWN, x.back(k));
            due(13, "back(0): nothing was kept", NOT, x.back(0));
            due(13, "back(1): nothing was kept", NOT, x.back(1));
            x.keep(0);
            x.keep(1);
            due(13, "back(" + k + ")", UNKNOWN, x.back(k));
        }
    }

    private static void promise12And13EachOfItsOwn() {
        for (int k = 0; k < 2; k++) {
            UphillOnly x = Bench.townOf("level 0 3 4");
            due(12, "keep(" + k + ") at minute 0", 0, x.keep(k));
            due(12, "keep changes nothing here", 0, x.here(1));
            due(13, "back(" + (1 - k) + "): the other one", NOT, x.back(1 - k));
            x.go(0);
            due(13, "back(" + (1 - k) + "): the other one", NOT, x.back(1 - k));
            due(13, "nothing changed by it", 4, x.here(1));
            due(12, "keep(" + (1 - k) + ")", 4, x.keep(1 - k));
            due(13, "back(" + k + ")", 0, x.back(k));
            due(13, "here(0)", 0, x.here(0));
            due(13, "here(1)", 0, x.here(1));
            due(13, "back(" + (1 - k) + ") to a later one", 4, x.back(1 - k));
            due(13, "here(0)", 3, x.here(0));
            due(13, "here(1)", 4, x.here(1));
            due(13, "back(" + k + ") once more", 0, x.back(k));
            due(13, "back(" + k + ") once more", 0, x.back(k));
        }
    }

    private static void promise12KeptOverAndAtTheLastMinute() {
        UphillOnly x = Bench.townOf("level 0 3 4");
        x.keep(0);
        x.go(0);
        due(12, "keep(0) over the first", 4, x.keep(0));
        x.rest(1);
        due(13, "back(0)", 4, x.back(0));
        due(13, "here(0)", 3, x.here(0));
        Bench.restTo(x, 99999);
        due(12, "keep(1) at the last minute", 99999, x.keep(1));
        due(13, "back(0) from the last minute", 4, x.back(0));
        due(9, "go on from there", 8, x.go(0));
        due(13, "back(1) to the last minute", 99999, x.back(1));
        due(10, "rest(1) there", FULL, x.rest(1));
    }

    private static void promise13NothingKeptSinceTheLastText() {
        for (String text : new String[] {"up", "town 4", "idle"}) {
            UphillOnly x = new UphillOnly();
            x.keep(0);
            x.rest(5);
            x.keep(1);
            Bench.tell(x, text);
            due(13, "back(1) ahead of the text's end", 5, x.back(1));
            due(5, "town()", 1, x.town());
            due(13, "back(0) behind a text", NOT, x.back(0));
            due(13, "back(1) behind a text", NOT, x.back(1));
            x.rest(3);
            due(12, "keep(1)", 3, x.keep(1));
            due(13, "back(0), not kept since", NOT, x.back(0));
            due(13, "back(1), kept since", 3, x.back(1));
            Bench.tell(x, "oops");
            due(5, "town() refused", NOT, x.town());
            due(13, "back(1) behind a refused text", 3, x.back(1));
            x.erase();
            due(13, "back(1) behind an erased text", 3, x.back(1));
        }
    }

    private static void promise12And13RefusedChangesNothing() {
        for (int k : new int[] {-1, 2}) {
            Bench.refused(12, "keep(" + k + ")", UNKNOWN, BoundaryWalkerTest::stirred, x -> x.keep(k));
            Bench.refused(13, "back(" + k + ")", UNKNOWN, BoundaryWalkerTest::stirred, x -> x.back(k));
        }
        for (int k : new int[] {0, 1}) {
            Bench.refused(13, "back(" + k + "), nothing kept", NOT, x -> {
                stirred(x);
                x.town();
                x.keep(1 - k);
                x.rest(7);
            }, x -> x.back(k));
        }
    }
}
