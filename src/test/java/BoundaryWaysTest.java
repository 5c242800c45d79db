/** The boundary cases of ways: reach, soonest, home, cut (promises 14 to 17). */
public final class BoundaryWaysTest {
    private static final int NONE = Bench.NONE, UNKNOWN = Bench.UNKNOWN, OUTSIDE = Bench.OUTSIDE;
    private static final int NOT = Bench.NOT, LEAST = Bench.LEAST, MOST = Bench.MOST;

    public static void main(String[] args) {
        promise14WhatIsAsked();
        promise14ItIsAmongThem();
        promise14InThatHalf();
        promise14FromItsBegin();
        promise14AsItIsThen();
        promise15WhatIsAsked();
        promise15ToItself();
        promise15ToTheEndOfAHalf();
        promise15WaitsForTheHalf();
        promise15Never();
        promise15LateBegins();
        promise15WaitingHelps();
        promise15SoonestOfSeveralWays();
        promise15StreetsOfTheTownAsItIs();
        promise16WhatIsAsked();
        promise16ThereAndBack();
        promise16None();
        promise17WhatIsAsked();
        promise17Pairs();
        promise17AsWell();
        foretoldChangesNothing();
        refusedChangesNothing();
        Bench.end();
    }

    private static void due(int promise, String what, long want, long got) {
        Bench.due(promise, what, want, got);
    }

    // ---- promise 14: REACH in a HALF (0 DAY, 1 NIGHT). UNKNOWN; OUTSIDE.

    private static void promise14WhatIsAsked() {
        for (int n : new int[] {2, 4, 8}) {
            UphillOnly x = Bench.townOf("town " + n);
            due(14, "reach(0, 0) of " + n, 1, x.reach(0, 0));
            due(14, "reach(n less 1, 1) of " + n, 1 << n - 1, x.reach(n - 1, 1));
            for (int half : new int[] {-1, 2, LEAST, MOST}) {
                due(14, "reach(0, " + half + ")", OUTSIDE, x.reach(0, half));
                due(14, "reach(" + n + ", " + half + "): UNKNOWN ahead", UNKNOWN, x.reach(n, half));
            }
            for (int c : new int[] {-1, n, n + 1, 8, LEAST, MOST}) {
                due(14, "reach(" + c + ", 0) of " + n, UNKNOWN, x.reach(c, 0));
                due(14, "reach(" + c + ", 1) of " + n, UNKNOWN, x.reach(c, 1));
            }
        }
    }

    private static void promise14ItIsAmongThem() {
        UphillOnly x = Bench.townOf("town 8");
        for (int c = 0; c < 8; c++) {
            due(14, "reach(" + c + ", 0) without streets", 1 << c, x.reach(c, 0));
            due(14, "reach(" + c + ", 1) without streets", 1 << c, x.reach(c, 1));
        }
        Bench.done(x, "level 0 1 1;level 1 2 1;level 2 3 1;level 3 4 1;level 4 5 1;level 5 6 1;level 6 7 1");
        for (int c = 0; c < 8; c++) {
            due(14, "reach(" + c + ", 0) of all", 255, x.reach(c, 0));
            due(14, "reach(" + c + ", 1) of all", 255, x.reach(c, 1));
        }
    }

    private static void promise14InThatHalf() {
        for (int half = 0; half < 2; half++) {
            due(14, "a step of H", 3, Bench.townOf("half 10;level 0 1 10").reach(0, half));
            due(14, "a step of H and 1", 1, Bench.townOf("half 10;level 0 1 11").reach(0, half));
            due(14, "a step of H less 1", 3, Bench.townOf("half 10;level 0 1 9").reach(0, half));
            due(14, "two steps of H", 7, Bench.townOf("half 10;level 0 1 4;level 1 2 6").reach(0, half));
            due(14, "two steps of H and 1", 3, Bench.townOf("half 10;level 0 1 4;level 1 2 7").reach(0, half));
            due(14, "two steps of H less 1", 7, Bench.townOf("half 10;level 0 1 4;level 1 2 5").reach(0, half));
            due(14, "three steps, the last beyond", 7, Bench.townOf("half 10;level 0 1 9;level 1 2 1;level 2 3 1").reach(0, half));
            due(14, "the shorter way", 15, Bench.townOf("half 10;level 0 1 9;level 0 2 1;level 2 1 1;level 1 3 8").reach(0, half));
            due(14, "99 in a HALF of 99", 3, Bench.townOf("half 99;level 0 1 99").reach(0, half));
            due(14, "99 in a HALF of 98", 1, Bench.townOf("half 98;level 0 1 99").reach(0, half));
        }
        String ten = "level 0 1 99;level 1 2 99;level 2 3 99;level 3 4 99;level 4 5 99;level 5 6 99;level 6 7 99";
        due(14, "seven steps of 99 in 693", 255, Bench.townOf("town 8;half 693", ten).reach(0, 0));
        due(14, "seven steps of 99 in 692", 127, Bench.townOf("town 8;half 692", ten).reach(0, 0));
        due(14, "seven steps of 99 in 692, by NIGHT", 127, Bench.townOf("town 8;half 692", ten).reach(0, 1));
    }

    private static void promise14FromItsBegin() {
        UphillOnly x = Bench.townOf("half 10;level 0 1 10");
        for (int t : new int[] {0, 1, 9, 10, 11, 19, 20, 99999}) {
            Bench.restTo(x, t);
            due(14, "reach(0, 0) while one stands at " + t, 3, x.reach(0, 0));
            due(14, "reach(0, 1) while one stands at " + t, 3, x.reach(0, 1));
        }
    }

    private static void promise14AsItIsThen() {
        UphillOnly x = Bench.townOf("corner 0 0 1;corner 1 1 0;paved 0 1 1");
        due(14, "up by DAY", 3, x.reach(0, 0));
        due(14, "not up by NIGHT", 1, x.reach(0, 1));
        due(14, "not up by DAY", 2, x.reach(1, 0));
        due(14, "up by NIGHT", 3, x.reach(1, 1));
        Bench.done(x, "stuck 0;stuck 1");
        due(14, "STUCK, up by NIGHT", 3, x.reach(0, 1));
        due(14, "STUCK, not up by NIGHT", 2, x.reach(1, 1));
        UphillOnly y = Bench.townOf("town 3;corner 0 0 1;corner 1 1 0;corner 2 0 1;paved 0 1 1;paved 1 2 1");
        due(14, "on by the other HALF is not in that HALF", 3, y.reach(0, 0));
        due(14, "and the other way", 6, y.reach(2, 0));
        due(14, "by NIGHT to both", 7, y.reach(1, 1));
    }

    // ---- promise 15: SOONEST; NONE. UNKNOWN; OUTSIDE: t (0 .. 9999).

    private static void promise15WhatIsAsked() {
        for (int n : new int[] {2, 4, 8}) {
            UphillOnly x = Bench.townOf("town " + n + ";level 0 " + (n - 1) + " 1");
            due(15, "soonest(0, n less 1, 0)", 1, x.soonest(0, n - 1, 0));
            due(15, "soonest(n less 1, 0, 9999)", 10000, x.soonest(n - 1, 0, 9999));
            for (int c : new int[] {-1, n, n + 1, 8, LEAST, MOST}) {
                due(15, "soonest(" + c + ", 0, 0)", UNKNOWN, x.soonest(c, 0, 0));
                due(15, "soonest(0, " + c + ", 0)", UNKNOWN, x.soonest(0, c, 0));
                due(15, "soonest(" + c + ", " + c + ", 0)", UNKNOWN, x.soonest(c, c, 0));
                due(15, "soonest(" + c + ", 0, -1): UNKNOWN ahead", UNKNOWN, x.soonest(c, 0, -1));
                due(15, "soonest(0, " + c + ", 10000): UNKNOWN ahead", UNKNOWN, x.soonest(0, c, 10000));
            }
            for (int t : new int[] {-1, 10000, LEAST, MOST}) {
                due(15, "soonest(0, 1, " + t + ")", OUTSIDE, x.soonest(0, 1, t));
                due(15, "soonest(0, 0, " + t + ")", OUTSIDE, x.soonest(0, 0, t));
            }
        }
    }

    private static void promise15ToItself() {
        UphillOnly x = Bench.townOf("town 8;level 0 1 1");
        for (int t : new int[] {0, 1, 59, 60, 9998, 9999}) {
            for (int c = 0; c < 8; c += 7) {
                due(15, "soonest(" + c + ", " + c + ", " + t + ")", t, x.soonest(c, c, t));
            }
        }
    }

    private static void promise15ToTheEndOfAHalf() {
        UphillOnly x = Bench.townOf("half 10;level 0 1 3;level 2 3 10");
        int[] three = {3, 4, 5, 6, 7, 8, 9, 10, 13, 13, 13};
        int[] ten = {10, 20, 20, 20, 20, 20, 20, 20, 20, 20, 20};
        for (int t = 0; t <= 10; t++) {
            due(15, "3 minutes at " + t, three[t], x.soonest(0, 1, t));
            due(15, "3 minutes back at " + t, three[t], x.soonest(1, 0, t));
            due(15, "3 minutes at " + (t + 10), three[t] + 10, x.soonest(0, 1, t + 10));
            due(15, "10 minutes at " + t, ten[t], x.soonest(2, 3, t));
            due(15, "10 minutes at " + (t + 10), ten[t] + 10, x.soonest(2, 3, t + 10));
        }
    }

    private static void promise15WaitsForTheHalf() {
        UphillOnly x = Bench.townOf("half 10;corner 0 0 1;corner 1 1 0;paved 0 1 3");
        int[] byDay = {3, 4, 5, 6, 7, 8, 9, 10, 23, 23, 23, 23, 23, 23, 23, 23, 23, 23, 23, 23, 23, 24};
        for (int t = 0; t < byDay.length; t++) {
            due(15, "by DAY alone, at " + t, byDay[t], x.soonest(0, 1, t));
        }
        int[] byNight = {13, 13, 13, 13, 13, 13, 13, 13, 13, 13, 13, 14, 15, 16, 17, 18, 19, 20, 33, 33, 33, 33};
        for (int t = 0; t < byNight.length; t++) {
            due(15, "by NIGHT alone, at " + t, byNight[t], x.soonest(1, 0, t));
        }
        UphillOnly whole = Bench.townOf("half 10;corner 0 0 1;corner 1 1 0;paved 0 1 10");
        due(15, "a whole DAY at 0", 10, whole.soonest(0, 1, 0));
        due(15, "a whole DAY at 1", 30, whole.soonest(0, 1, 1));
        due(15, "a whole NIGHT at 0", 20, whole.soonest(1, 0, 0));
        due(15, "a whole NIGHT at 10", 20, whole.soonest(1, 0, 10));
        due(15, "a whole NIGHT at 11", 40, whole.soonest(1, 0, 11));
    }

    private static void promise15Never() {
        due(15, "no streets", NONE, new UphillOnly().soonest(0, 1, 0));
        due(15, "longer than a HALF", NONE, Bench.townOf("half 10;level 0 1 11").soonest(0, 1, 0));
        due(15, "longer than a HALF, late", NONE, Bench.townOf("half 10;level 0 1 11").soonest(0, 1, 9999));
        due(15, "one MAY never", NONE, Bench.townOf("paved 0 1 1").soonest(0, 1, 0));
        due(15, "to the next, not on", NONE, Bench.townOf("level 0 1 1;paved 1 2 1").soonest(0, 2, 0));
        due(15, "the way back alone", NONE, Bench.townOf("corner 0 1 1;paved 0 1 1").soonest(0, 1, 0));
        due(15, "by the way back", 1, Bench.townOf("corner 0 1 1;paved 0 1 1").soonest(1, 0, 0));
    }

    private static void promise15LateBegins() {
        UphillOnly x = Bench.townOf("half 999;level 0 1 9;level 1 2 10;corner 2 0 1;corner 3 1 0;paved 2 3 99");
        due(15, "to the end of the tenth HALF", 9990, x.soonest(0, 1, 9981));
        due(15, "a minute too late for it", 9999, x.soonest(0, 1, 9982));
        due(15, "in the eleventh", 10008, x.soonest(0, 1, 9999));
        due(15, "on", 10018, x.soonest(0, 2, 9999));
        due(15, "at 9999 by DAY", 10098, x.soonest(2, 3, 9999));
        due(15, "at 9999 by NIGHT", 11088, x.soonest(3, 2, 9999));
        UphillOnly far = Bench.townOf("town 8;half 10", "corner 0 0 9;corner 1 9 0;corner 2 0 9;corner 3 9 0",
            "corner 4 0 9;corner 5 9 0;corner 6 0 9;corner 7 9 0",
            "paved 0 1 10;paved 1 2 10;paved 2 3 10;paved 3 4 10;paved 4 5 10;paved 5 6 10;paved 6 7 10");
        due(15, "seven HALVES", 70, far.soonest(0, 7, 0));
        due(15, "seven HALVES, a minute late", 90, far.soonest(0, 7, 1));
        due(15, "back, from the NIGHT on", 80, far.soonest(7, 0, 0));
        due(15, "at 9999", 10070, far.soonest(0, 7, 9999));
    }

    private static void promise15WaitingHelps() {
        UphillOnly x = Bench.townOf("town 3;half 10;corner 0 9 0;corner 1 0 9;level 0 2 8;level 2 1 8;paved 0 1 1");
        due(15, "two HALVES by the long way, one by the short", 11, x.soonest(0, 1, 0));
        UphillOnly y = Bench.townOf("town 3;half 10;level 0 2 8;level 2 1 8;level 0 1 10");
        due(15, "at once by the whole HALF", 10, y.soonest(0, 1, 0));
        due(15, "at 1 by two steps, for the second of which one waits", 18, y.soonest(0, 1, 1));
        due(15, "at 3 by the whole of the next", 20, y.soonest(0, 1, 3));
    }

    /** The detour that is sooner, its corners in every order of their numbers. */
    private static void promise15SoonestOfSeveralWays() {
        for (int via = 1; via < 4; via++) {
            for (int to = 1; to < 4; to++) {
                int last = 6 - via - to;
                if (via != to) {
                    UphillOnly x = Bench.townOf("half 10;level 0 " + to + " 9;level 0 " + via + " 2;level " + to + " " + via + " 3;level "
                        + to + " " + last + " 5");
                    due(15, "by " + via + " to " + to, 5, x.soonest(0, to, 0));
                    due(15, "by " + via + " and " + to + " to " + last, 10, x.soonest(0, last, 0));
                    due(15, "by " + via + " and " + to + " to " + last + ", a minute late", 15, x.soonest(0, last, 1));
                    due(14, "by " + via + " and " + to + " to " + last, 15, x.reach(0, 0));
                }
            }
        }
    }

    private static void promise15StreetsOfTheTownAsItIs() {
        UphillOnly x = Bench.townOf(Bench.lines(12, "level 0 1 1"), "town 4");
        due(15, "no STREETS any more", NONE, x.soonest(0, 1, 0));
        Bench.done(x, "level 2 3 1");
        due(15, "the first is another one now", NONE, x.soonest(0, 1, 0));
        due(15, "and can be gone by", 1, x.soonest(3, 2, 0));
    }

    // ---- promise 16: HOME: the MINUTE; NONE. UNKNOWN.

    private static void promise16WhatIsAsked() {
        for (int n : new int[] {2, 4, 8}) {
            UphillOnly x = Bench.townOf("town " + n + ";level 0 " + (n - 1) + " 1");
            due(16, "home(0, n less 1)", 2, x.home(0, n - 1));
            due(16, "home(n less 1, 0)", 2, x.home(n - 1, 0));
            for (int c : new int[] {-1, n, n + 1, 8, LEAST, MOST}) {
                due(16, "home(" + c + ", 0)", UNKNOWN, x.home(c, 0));
                due(16, "home(0, " + c + ")", UNKNOWN, x.home(0, c));
                due(16, "home(" + c + ", " + c + ")", UNKNOWN, x.home(c, c));
            }
            for (int c = 0; c < n; c++) {
                due(16, "home(" + c + ", " + c + ")", 0, x.home(c, c));
            }
        }
    }

    private static void promise16ThereAndBack() {
        due(16, "both in a HALF", 10, Bench.townOf("half 10;level 0 1 5").home(0, 1));
        due(16, "the second in the next", 16, Bench.townOf("half 10;level 0 1 6").home(0, 1));
        due(16, "a whole HALF each", 20, Bench.townOf("half 10;level 0 1 10").home(0, 1));
        UphillOnly x = Bench.townOf("half 10;corner 0 0 1;corner 1 1 0;paved 0 1 3");
        due(16, "there by DAY, back by NIGHT", 13, x.home(0, 1));
        due(16, "there by NIGHT, back by the next DAY", 23, x.home(1, 0));
        UphillOnly y = Bench.townOf("half 99;level 0 1 99");
        due(16, "two whole HALVES of 99", 198, y.home(0, 1));
        Bench.restTo(x, 5);
        due(16, "beginning at MINUTE 0, wherever one is", 13, x.home(0, 1));
    }

    private static void promise16None() {
        due(16, "no way there", NONE, new UphillOnly().home(0, 1));
        due(16, "no way back", NONE, Bench.townOf("corner 1 1 1;paved 0 1 1").home(0, 1));
        due(16, "a way back, none there", NONE, Bench.townOf("corner 1 1 1;paved 0 1 1").home(1, 0));
        due(16, "too long a way", NONE, Bench.townOf("half 10;level 0 1 11").home(0, 1));
    }

    // ---- promise 17: CUT OFF: how many. UNKNOWN; NOT: it is STUCK.

    private static void promise17WhatIsAsked() {
        for (int n : new int[] {2, 4, 8}) {
            UphillOnly x = Bench.townOf("town " + n + ";stuck " + (n - 1));
            due(17, "cut(0)", 0, x.cut(0));
            due(17, "cut(n less 1), STUCK", NOT, x.cut(n - 1));
            for (int c : new int[] {-1, n, n + 1, 8, 31, 32, LEAST, MOST}) {
                due(17, "cut(" + c + ") of " + n, UNKNOWN, x.cut(c));
            }
            Bench.done(x, "free " + (n - 1) + ";stuck 0");
            due(17, "cut(n less 1), free again", 0, x.cut(n - 1));
            due(17, "cut(0), STUCK", NOT, x.cut(0));
        }
    }

    private static void promise17Pairs() {
        due(17, "no streets", 0, Bench.townOf("corner 0 1 9").cut(0));
        due(17, "one pair", 1, Bench.townOf("town 2;corner 0 0 1;corner 1 1 0;paved 0 1 1").cut(0));
        due(17, "one pair, of the other screw", 1, Bench.townOf("town 2;corner 0 0 2;corner 1 1 1;paved 0 1 1").cut(0));
        due(17, "a screw that changes nothing", 0, Bench.townOf("town 2;corner 0 0 2;corner 1 1 1;paved 0 1 1").cut(1));
        due(17, "another way is left", 0, Bench.townOf("town 2;corner 0 0 1;corner 1 1 0;paved 0 1 1;level 0 1 1").cut(0));
        due(17, "that is too long", 1, Bench.townOf("town 2;half 10;corner 0 0 1;corner 1 1 0;paved 0 1 1;level 0 1 11").cut(0));
        due(17, "a later way is a way", 0, Bench.townOf("town 2;corner 0 0 1;corner 1 1 0;paved 0 1 1;bridge 0 1 1").cut(0));
        UphillOnly star = Bench.townOf("town 8;corner 0 5 0;corner 1 3 3;level 1 2 1;level 2 3 1;level 3 4 1;level 4 5 1;level 5 6 1;level 6 7 1",
            "paved 0 1 1");
        due(17, "from 0 to all seven, by NIGHT alone", 7, star.cut(0));
        UphillOnly both = Bench.townOf("town 8;corner 0 50 0;corner 1 50 9;corner 2 50 9;corner 3 50 9",
            "corner 4 0 9;corner 5 0 9;corner 6 0 9;corner 7 0 9",
            "paved 0 1 1;paved 0 2 1;paved 0 3 1;paved 4 0 1;paved 5 0 1;paved 6 0 1;paved 7 0 1");
        due(17, "from 0 to seven, from 4 .. 7 by it to six each, and three that come by it are not told off", 31, both.cut(0));
    }

    private static void promise17AsWell() {
        UphillOnly x = Bench.townOf("town 3;corner 0 0 9;corner 1 5 5;corner 2 9 0;paved 0 1 5;paved 1 2 5;stuck 0");
        due(17, "2 as well: from 2 to 1", 1, x.cut(2));
        due(17, "2 is not STUCK by it", 1, x.count(8));
        due(17, "nor cut off", 65, x.soonest(2, 1, 0));
        Bench.done(x, "free 0");
        due(17, "2 alone: from 2 to 1, to 0", 2, x.cut(2));
        Bench.done(x, "stuck 2");
        due(17, "0 as well: from 1 to 0", 1, x.cut(0));
    }

    // ---- FORETOLD (nothing changes); refused, and nothing changes.

    private static void stirred(UphillOnly x) {
        Bench.done(x, "town 5;corner 0 1 9;corner 1 5 5;corner 2 9 1;half 20;stuck 2;even");
        Bench.done(x, "paved 0 1 7;stair 1 2 5;level 0 2 6;bridge 2 3 4;errand 0 2;errand 2 0");
        x.keep(0);
        x.go(2);
        x.keep(1);
        x.rest(3);
        x.walk(0);
        x.walk(1);
        x.seen(0, 1, 0);
        Bench.tell(x, "half 25;stuck 3");
    }

    private static void foretoldChangesNothing() {
        UphillOnly twin = new UphillOnly();
        UphillOnly x = new UphillOnly();
        stirred(twin);
        stirred(x);
        for (int a = 0; a < 5; a++) {
            x.reach(a, 0);
            x.reach(a, 1);
            x.cut(a);
            for (int b = 0; b < 5; b++) {
                x.soonest(a, b, 9999);
                x.home(a, b);
            }
        }
        Bench.alike(14, "reach, soonest, home, cut", twin, x);
    }

    private static void refusedChangesNothing() {
        Bench.refused(14, "reach(5, 0)", UNKNOWN, BoundaryWaysTest::stirred, x -> x.reach(5, 0));
        Bench.refused(14, "reach(-1, 0)", UNKNOWN, BoundaryWaysTest::stirred, x -> x.reach(-1, 0));
        Bench.refused(14, "reach(0, 2)", OUTSIDE, BoundaryWaysTest::stirred, x -> x.reach(0, 2));
        Bench.refused(14, "reach(0, -1)", OUTSIDE, BoundaryWaysTest::stirred, x -> x.reach(0, -1));
        Bench.refused(15, "soonest(5, 0, 0)", UNKNOWN, BoundaryWaysTest::stirred, x -> x.soonest(5, 0, 0));
        Bench.refused(15, "soonest(0, 5, 0)", UNKNOWN, BoundaryWaysTest::stirred, x -> x.soonest(0, 5, 0));
        Bench.refused(15, "soonest(0, 1, -1)", OUTSIDE, BoundaryWaysTest::stirred, x -> x.soonest(0, 1, -1));
        Bench.refused(15, "soonest(0, 1, 10000)", OUTSIDE, BoundaryWaysTest::stirred, x -> x.soonest(0, 1, 10000));
        Bench.refused(16, "home(5, 0)", UNKNOWN, BoundaryWaysTest::stirred, x -> x.home(5, 0));
        Bench.refused(16, "home(0, -1)", UNKNOWN, BoundaryWaysTest::stirred, x -> x.home(0, -1));
        Bench.refused(17, "cut(5)", UNKNOWN, BoundaryWaysTest::stirred, x -> x.cut(5));
        Bench.refused(17, "cut(-1)", UNKNOWN, BoundaryWaysTest::stirred, x -> x.cut(-1));
        Bench.refused(17, "cut(2)", NOT, BoundaryWaysTest::stirred, x -> x.cut(2));
    }
}
