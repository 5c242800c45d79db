/** The boundary cases of walks and heights: walk, burn, judge, seen, forget, sure, count (promises 22 to 28). */
public final class BoundaryWalksTest {
    private static final int NONE = Bench.NONE, UNKNOWN = Bench.UNKNOWN, OUTSIDE = Bench.OUTSIDE;
    private static final int NOT = Bench.NOT, FULL = Bench.FULL, LEAST = Bench.LEAST, MOST = Bench.MOST;

    public static void main(String[] args) {
        promise22CornersThatThereAre();
        promise22FullAtTwelve();
        promise23Burn();
        promise24WhatIsAsked();
        promise24Order();
        promise24OneCorner();
        promise24NoSuchStep();
        promise24EndsInThatHalf();
        promise24FirstStreetThatCan();
        promise24TwelveCorners();
        promise25WhatIsAsked();
        promise25FullAtTwelve();
        promise26Forget();
        promise27WhatIsAsked();
        promise27Chains();
        promise27WhetherAllCanBe();
        promise27EachHalfAlone();
        promise27TwelveSteps();
        promise28WhatIsAsked();
        promise28AtTheirLeastAndMost();
        foretoldChangesNothing();
        refusedChangesNothing();
        Bench.end();
    }

    private static void due(int promise, String what, long want, long got) {
        Bench.due(promise, what, want, got);
    }

    private static void walked(UphillOnly x, int... corners) {
        x.burn();
        for (int c : corners) {
            x.walk(c);
        }
    }

    private static void judged(String what, int t, int which, int minute, UphillOnly x) {
        due(24, what + ": judge(" + t + ", 0)", which, x.judge(t, 0));
        due(24, what + ": judge(" + t + ", 1)", minute, x.judge(t, 1));
    }

    // ---- promise 22: A CORNER behind THE WALK (12 at most): how many. UNKNOWN; FULL.

    private static void promise22CornersThatThereAre() {
        for (int n = 2; n <= 8; n++) {
            UphillOnly x = Bench.townOf("town " + n);
            for (int c : new int[] {-1, n, n + 1, 8, LEAST, MOST}) {
                due(22, "walk(" + c + ") of " + n, UNKNOWN, x.walk(c));
                due(22, "count(5), refused", 0, x.count(5));
            }
            due(22, "walk(n less 1) of " + n, 1, x.walk(n - 1));
            due(22, "walk(0) of " + n, 2, x.walk(0));
            due(22, "walk(0) again", 3, x.walk(0));
        }
    }

    private static void promise22FullAtTwelve() {
        UphillOnly x = Bench.townOf("level 0 1 1");
        for (int i = 1; i <= 12; i++) {
            due(22, "walk, the " + i, i, x.walk(i % 2));
        }
        judged("twelve", 0, NONE, 11, x);
        for (int c = 0; c < 4; c++) {
            due(22, "walk(" + c + "), a thirteenth", FULL, x.walk(c));
        }
        due(22, "walk(4): UNKNOWN ahead of FULL", UNKNOWN, x.walk(4));
        due(22, "walk(-1): UNKNOWN ahead of FULL", UNKNOWN, x.walk(-1));
        due(22, "count(5)", 12, x.count(5));
        judged("twelve still", 0, NONE, 11, x);
        due(23, "burn()", 12, x.burn());
        due(22, "walk(0), the first again", 1, x.walk(0));
    }

    // ---- promise 23: THE WALK is empty: how many it had.

    private static void promise23Burn() {
        for (int many : new int[] {0, 1, 11, 12, 13}) {
            UphillOnly x = new UphillOnly();
            for (int i = 0; i < many; i++) {
                x.walk(i % 4);
            }
            x.seen(0, 1, 0);
            due(23, "burn() of " + many, Math.min(12, many), x.burn());
            due(23, "count(5) then", 0, x.count(5));
            due(23, "judge then", NOT, x.judge(0, 0));
            due(23, "burn() of nothing", 0, x.burn());
            due(23, "STEPS stay", 1, x.count(6));
        }
    }

    // ---- promise 24: JUDGED from a MINUTE (0 .. 9999): which (0; NONE: all can be), the MINUTE (1). OUTSIDE; NOT: empty.

    private static void promise24WhatIsAsked() {
        UphillOnly x = Bench.townOf("level 0 1 1");
        walked(x, 0, 1);
        judged("the first MINUTE", 0, NONE, 1, x);
        judged("the last MINUTE", 9999, NONE, 10000, x);
        for (int t : new int[] {-1, 10000, LEAST, MOST}) {
            for (int what = -1; what <= 2; what++) {
                due(24, "judge(" + t + ", " + what + ")", OUTSIDE, x.judge(t, what));
            }
        }
        for (int what : new int[] {-1, 2, LEAST, MOST}) {
            due(24, "judge(0, " + what + ")", OUTSIDE, x.judge(0, what));
            due(24, "judge(9999, " + what + ")", OUTSIDE, x.judge(9999, what));
        }
    }

    private static void promise24Order() {
        UphillOnly x = new UphillOnly();
        due(24, "judge(0, 0) of none", NOT, x.judge(0, 0));
        due(24, "judge(9999, 1) of none", NOT, x.judge(9999, 1));
        due(24, "judge(-1, 0) of none: OUTSIDE ahead of NOT", OUTSIDE, x.judge(-1, 0));
        due(24, "judge(10000, 1) of none: OUTSIDE ahead of NOT", OUTSIDE, x.judge(10000, 1));
        due(24, "judge(0, 2) of none: OUTSIDE ahead of NOT", OUTSIDE, x.judge(0, 2));
        due(24, "judge(0, -1) of none: OUTSIDE ahead of NOT", OUTSIDE, x.judge(0, -1));
    }

    private static void promise24OneCorner() {
        for (int c = 0; c < 4; c++) {
            UphillOnly x = new UphillOnly();
            x.walk(c);
            judged("one CORNER", 0, NONE, 0, x);
            judged("one CORNER", 9999, NONE, 9999, x);
        }
    }

    private static void promise24NoSuchStep() {
        UphillOnly x = Bench.townOf("corner 1 1 1;corner 2 2 2;paved 0 1 3;paved 1 2 4");
        walked(x, 0, 2);
        judged("no STREET", 7, 1, 7, x);
        walked(x, 0, 0);
        judged("a CORNER and itself", 7, 1, 7, x);
        walked(x, 1, 0);
        judged("one MAY not", 7, 1, 7, x);
        walked(x, 0, 1, 2);
        judged("all can be", 7, NONE, 14, x);
        walked(x, 0, 1, 2, 1, 0);
        judged("the fourth CORNER", 7, 3, 14, x);
        walked(x, 0, 1, 2, 2);
        judged("the last and itself", 7, 3, 14, x);
        walked(x, 0, 1, 3, 0, 1);
        judged("the first of several", 7, 2, 10, x);
        due(24, "without streets", 1, walkedAnew("town 2", 0, 1).judge(0, 0));
        judged("none of twelve STREETS", 0, 1, 0, walkedAnew(Bench.lines(12, "paved 0 1 1"), 0, 1));
        UphillOnly anew = Bench.townOf("level 0 1 1", "town 4");
        walked(anew, 0, 1);
        judged("a STREET that was ahead of 'town 4'", 0, 1, 0, anew);
    }

    private static UphillOnly walkedAnew(String text, int... corners) {
        UphillOnly x = Bench.townOf(text);
        walked(x, corners);
        return x;
    }

    private static void promise24EndsInThatHalf() {
        UphillOnly x = walkedAnew("half 10;level 0 1 4;level 1 2 6", 0, 1, 2);
        judged("to the HALF's end", 0, NONE, 10, x);
        judged("a minute beyond", 1, 2, 5, x);
        judged("the first to the end, the second in the next", 6, NONE, 16, x);
        judged("the first beyond", 7, 1, 7, x);
        judged("the first beyond", 9, 1, 9, x);
        judged("at the next one's begin", 10, NONE, 20, x);
        judged("at 9990", 9990, NONE, 10000, x);
        judged("at 9999", 9999, 1, 9999, x);
        judged("a whole HALF", 20, NONE, 30, walkedAnew("half 10;level 0 1 10", 0, 1));
        judged("a whole HALF, a minute late", 21, 1, 21, walkedAnew("half 10;level 0 1 10", 0, 1));
        judged("longer than a HALF", 20, 1, 20, walkedAnew("half 10;level 0 1 11", 0, 1));
        UphillOnly y = walkedAnew("half 10;corner 0 0 1;corner 1 1 0;paved 0 1 5", 0, 1, 0);
        judged("it begins at once: no waiting for the NIGHT", 0, 2, 5, y);
        judged("at the NIGHT's begin", 5, NONE, 15, y);
        judged("by NIGHT", 10, 1, 10, y);
    }

    private static void promise24FirstStreetThatCan() {
        UphillOnly x = walkedAnew("half 10;level 0 1 5;level 0 1 4;level 1 0 3;level 0 1 2", 0, 1);
        int[] due = {5, 6, 7, 8, 9, 10, 10, 10, 10};
        for (int t = 0; t < due.length; t++) {
            judged("of several STREETS", t, NONE, due[t], x);
        }
        judged("none of several", 9, 1, 9, x);
        UphillOnly y = walkedAnew("corner 1 0 1;paved 0 1 9;bridge 0 1 7;level 1 0 5", 0, 1);
        judged("by DAY the third", 0, NONE, 5, y);
        judged("by NIGHT the first", 60, NONE, 69, y);
        judged("by NIGHT, late, the second", 112, NONE, 119, y);
        judged("by NIGHT, later, the third", 115, NONE, 120, y);
        walked(y, 1, 0);
        judged("the way down by NIGHT the second", 60, NONE, 67, y);
    }

    private static void promise24TwelveCorners() {
        UphillOnly x = Bench.townOf("town 3;half 999;level 0 1 99;level 1 2 9");
        walked(x, 0, 1, 0, 1, 0, 1, 0, 1, 0, 1, 0, 1);
        judged("eleven steps of 99 in a HALF of 999: not the eleventh", 0, 11, 990, x);
        judged("over the HALF's end", 9, NONE, 1098, x);
        walked(x, 0, 1, 0, 1, 0, 1, 0, 1, 0, 1, 2, 1);
        judged("nine of 99 and two of 9", 0, NONE, 909, x);
        judged("to the HALF's end", 90, NONE, 999, x);
        judged("the twelfth a minute beyond", 91, 11, 991, x);
    }

    // ---- promise 25: A STEP (12 at most): how many. UNKNOWN; OUTSIDE: HALF, a CORNER and itself; FULL.

    private static void promise25WhatIsAsked() {
        for (int n : new int[] {2, 4, 8}) {
            UphillOnly x = Bench.townOf("town " + n);
            for (int c : new int[] {-1, n, n + 1, 8, LEAST, MOST}) {
                due(25, "seen(" + c + ", 0, 0) of " + n, UNKNOWN, x.seen(c, 0, 0));
                due(25, "seen(0, " + c + ", 0) of " + n, UNKNOWN, x.seen(0, c, 0));
                due(25, "seen(" + c + ", " + c + ", 0): UNKNOWN ahead", UNKNOWN, x.seen(c, c, 0));
                due(25, "seen(" + c + ", 0, 2): UNKNOWN ahead", UNKNOWN, x.seen(c, 0, 2));
                due(25, "seen(0, " + c + ", -1): UNKNOWN ahead", UNKNOWN, x.seen(0, c, -1));
            }
            for (int half : new int[] {-1, 2, LEAST, MOST}) {
                due(25, "seen(0, 1, " + half + ")", OUTSIDE, x.seen(0, 1, half));
            }
            for (int c = 0; c < n; c++) {
                due(25, "seen(" + c + ", " + c + ", 0)", OUTSIDE, x.seen(c, c, 0));
                due(25, "seen(" + c + ", " + c + ", 1)", OUTSIDE, x.seen(c, c, 1));
            }
            due(25, "count(6), all refused", 0, x.count(6));
            due(25, "seen(0, n less 1, 0)", 1, x.seen(0, n - 1, 0));
            due(25, "seen(n less 1, 0, 1)", 2, x.seen(n - 1, 0, 1));
            due(25, "seen(n less 1, 0, 1) again", 3, x.seen(n - 1, 0, 1));
        }
    }

    private static void promise25FullAtTwelve() {
        UphillOnly x = new UphillOnly();
        for (int i = 1; i <= 12; i++) {
            due(25, "seen, the " + i, i, x.seen(0, 1, i % 2));
        }
        due(25, "seen, a thirteenth by DAY", FULL, x.seen(2, 3, 0));
        due(25, "seen, a thirteenth by NIGHT", FULL, x.seen(2, 3, 1));
        due(25, "seen again, a thirteenth", FULL, x.seen(0, 1, 0));
        due(25, "seen(0, 0, 0): OUTSIDE ahead of FULL", OUTSIDE, x.seen(0, 0, 0));
        due(25, "seen(0, 1, 2): OUTSIDE ahead of FULL", OUTSIDE, x.seen(0, 1, 2));
        due(25, "seen(0, 4, 0): UNKNOWN ahead of FULL", UNKNOWN, x.seen(0, 4, 0));
        due(25, "count(6)", 12, x.count(6));
        due(25, "the thirteenth is not told", 0, x.sure(2, 3, 0));
        due(26, "forget()", 12, x.forget());
        due(25, "seen(2, 3, 0), the first again", 1, x.seen(2, 3, 0));
        due(27, "sure(2, 3, 0) of it", 1, x.sure(2, 3, 0));
        due(27, "sure(0, 1, 0), forgotten", 0, x.sure(0, 1, 0));
    }

    // ---- promise 26: STEPS are none: how many there were.

    private static void promise26Forget() {
        for (int many : new int[] {0, 1, 11, 12, 13}) {
            UphillOnly x = new UphillOnly();
            for (int i = 0; i < many; i++) {
                x.seen(i % 2, 1 - i % 2, 0);
            }
            x.walk(3);
            due(27, "sure(0, 0, 0) of " + many, many > 1 ? 0 : 1, x.sure(0, 0, 0));
            due(26, "forget() of " + many, Math.min(12, many), x.forget());
            due(26, "count(6) then", 0, x.count(6));
            due(26, "sure(0, 1, 0) then", 0, x.sure(0, 1, 0));
            due(26, "sure(0, 0, 0) then", 1, x.sure(0, 0, 0));
            due(26, "forget() of nothing", 0, x.forget());
            due(26, "THE WALK stays", 1, x.count(5));
        }
    }

    // ---- promise 27: SURE (a not b); of a and itself: 1 all STEPS in that HALF can be, 0. UNKNOWN; OUTSIDE: HALF.

    private static void promise27WhatIsAsked() {
        for (int n : new int[] {2, 4, 8}) {
            UphillOnly x = Bench.townOf("town " + n);
            x.seen(0, n - 1, 1);
            due(27, "sure(0, n less 1, 1)", 1, x.sure(0, n - 1, 1));
            due(27, "sure(n less 1, 0, 1)", 0, x.sure(n - 1, 0, 1));
            due(27, "sure(n less 1, n less 1, 1)", 1, x.sure(n - 1, n - 1, 1));
            for (int c : new int[] {-1, n, n + 1, 8, LEAST, MOST}) {
                due(27, "sure(" + c + ", 0, 0) of " + n, UNKNOWN, x.sure(c, 0, 0));
                due(27, "sure(0, " + c + ", 0) of " + n, UNKNOWN, x.sure(0, c, 0));
                due(27, "sure(" + c + ", " + c + ", 0) of " + n, UNKNOWN, x.sure(c, c, 0));
                due(27, "sure(" + c + ", 0, 2): UNKNOWN ahead", UNKNOWN, x.sure(c, 0, 2));
                due(27, "sure(0, " + c + ", -1): UNKNOWN ahead", UNKNOWN, x.sure(0, c, -1));
            }
            for (int half : new int[] {-1, 2, LEAST, MOST}) {
                due(27, "sure(0, 1, " + half + ")", OUTSIDE, x.sure(0, 1, half));
                due(27, "sure(0, 0, " + half + ")", OUTSIDE, x.sure(0, 0, half));
            }
        }
    }

    private static void promise27Chains() {
        for (int turn = 0; turn < 2; turn++) {
            UphillOnly x = Bench.townOf("town 8;corner 0 99 99");
            for (int i = 0; i < 7; i++) {
                int c = turn == 0 ? i : 6 - i;
                due(27, "sure(0, 7, 0) ahead of the last link", 0, x.sure(0, 7, 0));
                x.seen(c, c + 1, 0);
            }
            for (int a = 0; a < 8; a++) {
                for (int b = 0; b < 8; b++) {
                    due(27, "sure(" + a + ", " + b + ", 0) of a chain", a <= b ? 1 : 0, x.sure(a, b, 0));
                }
            }
        }
        UphillOnly fork = Bench.townOf("town 4");
        fork.seen(0, 2, 0);
        fork.seen(1, 2, 0);
        fork.seen(2, 3, 0);
        due(27, "two that are lower than a third", 0, fork.sure(0, 1, 0));
        due(27, "and the other way", 0, fork.sure(1, 0, 0));
        due(27, "on behind the third", 1, fork.sure(1, 3, 0));
        due(27, "by its STEPS alone", 0, Bench.townOf("corner 1 99 99;paved 0 1 1").sure(0, 1, 0));
    }

    private static void promise27WhetherAllCanBe() {
        for (int round = 2; round <= 8; round++) {
            UphillOnly x = Bench.townOf("town 8");
            for (int c = 0; c < round - 1; c++) {
                x.seen(c, c + 1, 0);
            }
            due(27, "a chain of " + round + " can be", 1, x.sure(7, 7, 0));
            x.seen(round - 1, 0, 0);
            for (int c = 0; c < 8; c++) {
                due(27, "a round of " + round + " cannot be, asked of " + c, 0, x.sure(c, c, 0));
            }
        }
        UphillOnly late = Bench.townOf("town 8");
        late.seen(0, 1, 0);
        late.seen(6, 7, 0);
        due(27, "the last two can be", 1, late.sure(0, 0, 0));
        late.seen(7, 6, 0);
        due(27, "the last two cannot be", 0, late.sure(0, 0, 0));
        UphillOnly twice = new UphillOnly();
        twice.seen(0, 1, 0);
        twice.seen(0, 1, 0);
        due(27, "the same twice can be", 1, twice.sure(0, 0, 0));
    }

    private static void promise27EachHalfAlone() {
        UphillOnly x = Bench.townOf("stuck 0;stuck 1");
        x.seen(0, 1, 0);
        x.seen(1, 0, 1);
        due(27, "by DAY", 1, x.sure(0, 1, 0));
        due(27, "not by NIGHT", 0, x.sure(0, 1, 1));
        due(27, "by NIGHT", 1, x.sure(1, 0, 1));
        due(27, "can be by DAY", 1, x.sure(0, 0, 0));
        due(27, "can be by NIGHT", 1, x.sure(0, 0, 1));
        x.seen(1, 2, 1);
        due(27, "no chain over both", 0, x.sure(0, 2, 0));
        due(27, "nor by NIGHT", 0, x.sure(0, 2, 1));
        x.seen(0, 1, 1);
        due(27, "still by DAY", 1, x.sure(3, 3, 0));
        due(27, "not by NIGHT", 0, x.sure(3, 3, 1));
    }

    private static void promise27TwelveSteps() {
        UphillOnly x = Bench.townOf("town 8");
        for (int i = 0; i < 5; i++) {
            x.seen(7, 6, 1);
        }
        for (int c = 6; c >= 0; c--) {
            x.seen(c, c + 1, 0);
        }
        due(27, "count(6)", 12, x.count(6));
        due(27, "the chain of the last seven, told backwards", 1, x.sure(0, 7, 0));
        due(27, "can be", 1, x.sure(0, 0, 0));
        due(27, "by NIGHT", 1, x.sure(7, 6, 1));
    }

    // ---- promise 28: count. OUTSIDE.

    private static void promise28WhatIsAsked() {
        for (int what : new int[] {-1, 9, 10, LEAST, MOST}) {
            due(28, "count(" + what + ")", OUTSIDE, new UphillOnly().count(what));
        }
    }

    private static void counts(String what, UphillOnly x, int... due) {
        for (int i = 0; i < due.length; i++) {
            due(28, what + ": count(" + i + ")", due[i], x.count(i));
        }
    }

    private static void promise28AtTheirLeastAndMost() {
        counts("the least", Bench.townOf("town 2;half 10"), 2, 0, 0, 10, 0, 0, 0, 0, 0);
        UphillOnly x = Bench.townOf("town 8;half 999;down;stuck 7", Bench.lines(12, "level 0 7 1"), Bench.lines(8, "errand 7 0"),
            "stuck 0;stuck 1;stuck 2;stuck 3;stuck 4;stuck 5;stuck 6");
        for (int i = 0; i < 12; i++) {
            x.walk(i % 8);
            x.seen(i % 8, (i + 1) % 8, i % 2);
        }
        Bench.tell(x, " ".repeat(200));
        counts("the most", x, 8, 12, 2, 999, 8, 12, 12, 200, 255);
        x.walk(0);
        x.seen(0, 1, 0);
        x.write(0, 1);
        counts("and nothing beyond", x, 8, 12, 2, 999, 8, 12, 12, 200, 255);
        for (int c = 0; c < 8; c++) {
            due(28, "count(8), " + c + " alone", 1 << c, Bench.townOf("town 8;stuck " + c).count(8));
        }
        due(28, "LAW EVEN", 1, Bench.townOf("even").count(2));
    }

    // ---- FORETOLD (nothing changes); refused, and nothing changes.

    private static void stirred(UphillOnly x) {
        Bench.done(x, "town 5;corner 0 1 9;corner 1 5 5;corner 2 9 1;half 20;stuck 2;even");
        Bench.done(x, "paved 0 1 7;stair 1 2 5;level 0 2 6;bridge 2 3 4;errand 0 2;errand 2 0");
        x.keep(0);
        x.go(2);
        x.keep(1);
        x.rest(3);
        x.walk(0);
        x.walk(1);
        x.walk(2);
        x.seen(0, 1, 0);
        x.seen(1, 2, 1);
        Bench.tell(x, "half 25;stuck 3");
    }

    private static void crowded(UphillOnly x) {
        stirred(x);
        for (int i = 0; i < 12; i++) {
            x.walk(0);
            x.seen(3, 4, 1);
        }
    }

    private static void foretoldChangesNothing() {
        UphillOnly twin = new UphillOnly();
        UphillOnly x = new UphillOnly();
        stirred(twin);
        stirred(x);
        for (int i = 0; i < 9; i++) {
            x.judge(0, i % 2);
            x.judge(9999, i % 2);
            x.sure(i % 5, (i + i / 5) % 5, i % 2);
            x.count(i);
        }
        Bench.alike(24, "judge, sure, count", twin, x);
    }

    private static void refusedChangesNothing() {
        for (int c : new int[] {-1, 5}) {
            Bench.refused(22, "walk(" + c + ")", UNKNOWN, BoundaryWalksTest::stirred, x -> x.walk(c));
            Bench.refused(25, "seen(" + c + ", 0, 0)", UNKNOWN, BoundaryWalksTest::stirred, x -> x.seen(c, 0, 0));
            Bench.refused(25, "seen(0, " + c + ", 0)", UNKNOWN, BoundaryWalksTest::stirred, x -> x.seen(0, c, 0));
            Bench.refused(27, "sure(" + c + ", 0, 0)", UNKNOWN, BoundaryWalksTest::stirred, x -> x.sure(c, 0, 0));
        }
        Bench.refused(22, "walk(0), a thirteenth", FULL, BoundaryWalksTest::crowded, x -> x.walk(0));
        Bench.refused(25, "seen(2, 0, 0), a thirteenth", FULL, BoundaryWalksTest::crowded, x -> x.seen(2, 0, 0));
        for (int wrong : new int[] {-1, 2}) {
            Bench.refused(24, "judge(0, " + wrong + ")", OUTSIDE, BoundaryWalksTest::stirred, x -> x.judge(0, wrong));
            Bench.refused(25, "seen(2, 0, " + wrong + ")", OUTSIDE, BoundaryWalksTest::stirred, x -> x.seen(2, 0, wrong));
            Bench.refused(27, "sure(2, 0, " + wrong + ")", OUTSIDE, BoundaryWalksTest::stirred, x -> x.sure(2, 0, wrong));
        }
        Bench.refused(24, "judge(10000, 0)", OUTSIDE, BoundaryWalksTest::stirred, x -> x.judge(10000, 0));
        Bench.refused(24, "judge(-1, 0)", OUTSIDE, BoundaryWalksTest::stirred, x -> x.judge(-1, 0));
        Bench.refused(25, "seen(2, 2, 0)", OUTSIDE, BoundaryWalksTest::stirred, x -> x.seen(2, 2, 0));
        Bench.refused(28, "count(9)", OUTSIDE, BoundaryWalksTest::stirred, x -> x.count(9));
        Bench.refused(28, "count(-1)", OUTSIDE, BoundaryWalksTest::stirred, x -> x.count(-1));
        Bench.refused(24, "judge(0, 0) of none", NOT, x -> {
            stirred(x);
            x.burn();
        }, x -> x.judge(0, 0));
    }
}
