/** The boundary cases of errands: served, law, rope, mended (promises 18 to 21). */
public final class BoundaryErrandsTest {
    private static final int NONE = Bench.NONE, OUTSIDE = Bench.OUTSIDE, LEAST = Bench.LEAST, MOST = Bench.MOST;

    public static void main(String[] args) {
        promise18NoneToEight();
        promise18AtMinuteTwoHAtTheLatest();
        promise18BeginningAtZero();
        promise19WhatIsAsked();
        promise19OfSeveralTheLeast();
        promise19EachLawBest();
        promise20WhatIsAsked();
        promise20NoStreets();
        promise20OfSeveralTheLeast();
        promise20TheLastOfTwelve();
        promise20AlwaysButInOneHalf();
        promise21WhatIsAsked();
        promise21NothingToMend();
        promise21None();
        promise21Fewest();
        promise21OfSeveralTheLeast();
        promise21AllEight();
        foretoldChangesNothing();
        refusedChangesNothing();
        Bench.end();
    }

    private static void due(int promise, String what, long want, long got) {
        Bench.due(promise, what, want, got);
    }

    private static void both(int promise, String what, int which, int many, int gotWhich, int gotMany) {
        due(promise, what + " (0)", which, gotWhich);
        due(promise, what + " (1)", many, gotMany);
    }

    // ---- promise 18: SERVED, by bits.

    private static void promise18NoneToEight() {
        UphillOnly x = Bench.townOf("level 0 1 1");
        due(18, "no errands", 0, x.served());
        for (int many = 1; many <= 8; many++) {
            Bench.done(x, "errand " + many % 2 + " " + (many + 1) % 2);
            due(18, many + " errands", (1 << many) - 1, x.served());
        }
        Bench.tell(x, "errand 0 1");
        due(18, "a ninth", 0, x.fault());
        due(18, "eight still", 255, x.served());
        x.erase();
        Bench.done(x, "idle");
        due(18, "no errands again", 0, x.served());
        UphillOnly y = Bench.townOf("town 8;level 6 7 1;errand 0 1;errand 1 2;errand 2 3;errand 3 4;errand 4 5;errand 5 6;errand 7 0",
            "errand 7 6");
        due(18, "the eighth alone", 128, y.served());
        Bench.done(y, "idle;errand 6 7;errand 0 1");
        due(18, "the first alone", 1, y.served());
    }

    private static void promise18AtMinuteTwoHAtTheLatest() {
        UphillOnly x = Bench.townOf("half 10;level 0 1 10;level 1 2 9;level 2 3 1;errand 0 1;errand 0 2;errand 0 3");
        due(18, "at 10, 19, 20", 7, x.served());
        UphillOnly y = Bench.townOf("half 10;level 0 1 10;level 1 2 10;level 2 3 1;errand 0 1;errand 0 2;errand 0 3");
        due(18, "at 10, 20, 21", 3, y.served());
        due(18, "the third at 21", 21, y.soonest(0, 3, 0));
        due(18, "two HALVES of 99", 1, Bench.townOf("half 99;level 0 1 99;level 1 2 99;errand 0 2").served());
        due(18, "of 98", 0, Bench.townOf("half 98;level 0 1 99;level 1 2 99;errand 0 2").served());
        UphillOnly night = Bench.townOf("half 10;corner 0 9 0;corner 1 0 9;corner 2 9 0;paved 0 1 10;paved 1 2 1;errand 0 1;errand 0 2");
        due(18, "by the NIGHT's end, not by the next DAY", 1, night.served());
        due(18, "longer than a HALF", 0, Bench.townOf("half 10;level 0 1 11;errand 0 1").served());
    }

    private static void promise18BeginningAtZero() {
        UphillOnly x = Bench.townOf("half 10;level 0 1 10;level 1 2 10;errand 0 2");
        for (int t : new int[] {0, 1, 20, 99999}) {
            Bench.restTo(x, t);
            due(18, "while one stands at " + t, 1, x.served());
        }
        x = Bench.townOf("level 0 1 1;errand 1 0");
        due(18, "from its own CORNER", 1, x.served());
        x.go(0);
        due(18, "wherever one stands", 1, x.served());
    }

    // ---- promise 19: BEST LAW: which (0), how many (1). OUTSIDE.

    private static void promise19WhatIsAsked() {
        for (int what : new int[] {-1, 2, LEAST, MOST}) {
            due(19, "law(" + what + ")", OUTSIDE, new UphillOnly().law(what));
        }
        both(19, "law of a new town", 0, 0, new UphillOnly().law(0), new UphillOnly().law(1));
    }

    private static void promise19OfSeveralTheLeast() {
        for (String law : new String[] {"up", "even", "down"}) {
            UphillOnly none = Bench.townOf(law + ";paved 0 1 1");
            both(19, "no errands, told " + law, 0, 0, none.law(0), none.law(1));
            UphillOnly never = Bench.townOf(law + ";corner 0 99 99;paved 0 1 1;errand 0 1");
            both(19, "none SERVED, told " + law, 0, 0, never.law(0), never.law(1));
            UphillOnly all = Bench.townOf(law + ";corner 1 1 1;paved 0 1 1;errand 0 1");
            both(19, "all SERVED by each, told " + law, 0, 1, all.law(0), all.law(1));
            UphillOnly two = Bench.townOf(law + ";paved 0 1 1;errand 0 1;errand 1 0");
            both(19, "by EVEN and DOWN, told " + law, 1, 2, two.law(0), two.law(1));
        }
    }

    private static void promise19EachLawBest() {
        UphillOnly x = Bench.townOf("corner 0 9 9;paved 0 1 1;errand 0 1;errand 1 0");
        both(19, "lower by 9", 2, 2, x.law(0), x.law(1));
        Bench.done(x, "corner 0 10 10");
        both(19, "lower by 10", 0, 1, x.law(0), x.law(1));
        Bench.done(x, "corner 0 10 9");
        both(19, "lower by 9 by NIGHT", 2, 2, x.law(0), x.law(1));
        Bench.done(x, "corner 0 1 1");
        both(19, "lower by 1", 2, 2, x.law(0), x.law(1));
        Bench.done(x, "corner 0 0 0");
        both(19, "at one height", 1, 2, x.law(0), x.law(1));
        Bench.done(x, "idle;" + Bench.lines(8, "errand 0 1"));
        both(19, "eight by EVEN", 1, 8, x.law(0), x.law(1));
        due(19, "LAW as told", 0, x.count(2));
    }

    // ---- promise 20: ROPE: the STREET (0; NONE: there are no STREETS), how many (1; as it is, if there are none). OUTSIDE.

    private static void promise20WhatIsAsked() {
        for (int what : new int[] {-1, 2, LEAST, MOST}) {
            due(20, "rope(" + what + ") of no streets", OUTSIDE, new UphillOnly().rope(what));
            due(20, "rope(" + what + ")", OUTSIDE, Bench.townOf("level 0 1 1").rope(what));
        }
    }

    private static void promise20NoStreets() {
        UphillOnly x = new UphillOnly();
        both(20, "no streets, no errands", NONE, 0, x.rope(0), x.rope(1));
        Bench.done(x, Bench.lines(8, "errand 0 1"));
        both(20, "no streets, eight errands", NONE, 0, x.rope(0), x.rope(1));
        Bench.done(x, "paved 0 1 1");
        both(20, "one street", 0, 8, x.rope(0), x.rope(1));
        Bench.done(x, "town 4");
        both(20, "no streets again", NONE, 0, x.rope(0), x.rope(1));
    }

    private static void promise20OfSeveralTheLeast() {
        UphillOnly x = Bench.townOf("paved 0 1 1;paved 2 3 1");
        both(20, "no errands", 0, 0, x.rope(0), x.rope(1));
        Bench.done(x, "errand 0 2");
        both(20, "none SERVED", 0, 0, x.rope(0), x.rope(1));
        Bench.done(x, "idle;errand 0 1;errand 2 3");
        both(20, "one each", 0, 1, x.rope(0), x.rope(1));
        Bench.done(x, "errand 3 2");
        both(20, "two by the second", 1, 2, x.rope(0), x.rope(1));
        Bench.done(x, "errand 1 0");
        both(20, "two each", 0, 2, x.rope(0), x.rope(1));
        UphillOnly served = Bench.townOf("level 2 3 1;level 0 1 1;errand 0 1");
        both(20, "all SERVED as it is", 0, 1, served.rope(0), served.rope(1));
    }

    private static void promise20TheLastOfTwelve() {
        UphillOnly x = Bench.townOf(Bench.lines(11, "paved 0 1 1") + ";stair 2 3 1", "errand 3 2");
        both(20, "the twelfth", 11, 1, x.rope(0), x.rope(1));
        Bench.done(x, Bench.lines(7, "errand 3 2"));
        both(20, "the twelfth, eight errands", 11, 8, x.rope(0), x.rope(1));
        due(20, "it is not kept", 0, x.served());
        due(20, "nor what one MAY", 0, x.as(11, 2));
    }

    private static void promise20AlwaysButInOneHalf() {
        UphillOnly x = Bench.townOf("half 10;corner 0 99 99;stair 0 1 10;errand 0 1;errand 1 0");
        both(20, "a street of H", 0, 2, x.rope(0), x.rope(1));
        UphillOnly y = Bench.townOf("half 10;corner 0 99 99;stair 0 1 11;errand 0 1;errand 1 0");
        both(20, "a street of H and 1", 0, 0, y.rope(0), y.rope(1));
        UphillOnly day = Bench.townOf("half 10;bridge 0 1 10;bridge 1 2 10;bridge 2 3 10;errand 0 2;errand 1 3;errand 0 3");
        both(20, "by DAY by the rope, by NIGHT by the bridge: 0 to 2 at 20", 0, 1, day.rope(0), day.rope(1));
        Bench.done(day, "idle;errand 0 2;errand 1 3;errand 2 0");
        both(20, "both ways", 1, 2, day.rope(0), day.rope(1));
    }

    // ---- promise 21: MENDED: how many (0), the set by bits (1); NONE. OUTSIDE.

    private static void promise21WhatIsAsked() {
        for (int what : new int[] {-1, 2, LEAST, MOST}) {
            due(21, "mended(" + what + ")", OUTSIDE, new UphillOnly().mended(what));
            due(21, "mended(" + what + ") of NONE", OUTSIDE, Bench.townOf("errand 0 1").mended(what));
        }
    }

    private static void promise21NothingToMend() {
        UphillOnly x = new UphillOnly();
        both(21, "a new town", 0, 0, x.mended(0), x.mended(1));
        Bench.done(x, "stuck 0;stuck 1;stuck 2;stuck 3");
        both(21, "all STUCK, no errands", 0, 0, x.mended(0), x.mended(1));
        Bench.done(x, "level 0 1 1;errand 0 1");
        both(21, "all STUCK, all SERVED", 0, 0, x.mended(0), x.mended(1));
        Bench.done(x, "free 0;free 1;free 2;free 3");
        both(21, "none STUCK, all SERVED", 0, 0, x.mended(0), x.mended(1));
    }

    private static void promise21None() {
        UphillOnly x = Bench.townOf("errand 0 1");
        both(21, "none STUCK, none SERVED", NONE, NONE, x.mended(0), x.mended(1));
        Bench.done(x, "stuck 0;stuck 1;stuck 2;stuck 3");
        both(21, "all STUCK, never SERVED", NONE, NONE, x.mended(0), x.mended(1));
        UphillOnly one = Bench.townOf("town 8;level 0 1 1;" + Bench.lines(7, "errand 0 1"), "errand 0 7");
        both(21, "seven of eight", NONE, NONE, one.mended(0), one.mended(1));
        UphillOnly either = Bench.townOf("town 2;corner 0 5 0;corner 1 5 0;paved 0 1 60;stuck 0;stuck 1;errand 0 1;errand 1 0");
        both(21, "either, not both", NONE, NONE, either.mended(0), either.mended(1));
        UphillOnly free = Bench.townOf("town 2;corner 0 0 9;paved 0 1 1;stuck 0;errand 1 0", "free 0;corner 0 0 0");
        both(21, "it is free, and does not help", NONE, NONE, free.mended(0), free.mended(1));
    }

    private static void promise21Fewest() {
        UphillOnly x = Bench.townOf("town 3;corner 0 20 0;corner 1 20 50;corner 2 60 35;stair 0 1 1;stair 0 2 1;stair 2 1 1",
            "stuck 0;stuck 1;stuck 2;errand 2 1");
        both(21, "1 and 2 to be free, 0 need not", 2, 6, x.mended(0), x.mended(1));
        UphillOnly fewer = Bench.townOf("town 3;corner 0 20 5;corner 1 20 15;corner 2 50 35;stair 0 1 1;stair 1 2 1",
            "stuck 0;stuck 1;stuck 2;errand 1 2");
        both(21, "one of a greater number, not two of a less", 1, 4, fewer.mended(0), fewer.mended(1));
        UphillOnly last = Bench.townOf("town 8;corner 7 0 1;paved 6 7 1;stuck 0;stuck 7;errand 6 7");
        both(21, "the last alone", 1, 128, last.mended(0), last.mended(1));
        due(21, "they stay STUCK", 129, last.count(8));
    }

    private static void promise21OfSeveralTheLeast() {
        UphillOnly x = Bench.townOf("town 3;corner 0 5 0;corner 1 5 9;paved 0 1 5;stuck 0;stuck 1;errand 0 1");
        both(21, "0 or 1", 1, 1, x.mended(0), x.mended(1));
        Bench.done(x, "free 0;corner 0 5 5");
        both(21, "1 alone", 1, 2, x.mended(0), x.mended(1));
        UphillOnly pair = Bench.townOf("town 8;corner 0 5 0;corner 1 5 9;corner 6 5 0;corner 7 5 9;paved 0 1 5;paved 6 7 5",
            "stuck 0;stuck 1;stuck 6;stuck 7;errand 0 1;errand 6 7");
        both(21, "0 or 1, and 6 or 7", 2, 65, pair.mended(0), pair.mended(1));
    }

    private static void promise21AllEight() {
        UphillOnly x = Bench.townOf("town 8;stuck 0;stuck 1;stuck 2;stuck 3;stuck 4;stuck 5;stuck 6;stuck 7",
            "corner 0 50 80;corner 2 50 80;corner 4 50 80;corner 6 50 80",
            "corner 1 50 90;corner 3 50 90;corner 5 50 90;corner 7 50 90",
            "stair 0 1 5;stair 2 3 5;stair 4 5 5;stair 6 7 5;errand 0 1;errand 2 3;errand 4 5;errand 6 7");
        both(21, "all eight", 8, 255, x.mended(0), x.mended(1));
        Bench.done(x, "free 7");
        both(21, "the seven that are STUCK", 7, 127, x.mended(0), x.mended(1));
        Bench.done(x, "stuck 7;free 0");
        both(21, "the seven that are STUCK", 7, 254, x.mended(0), x.mended(1));
        Bench.done(x, "errand 0 2");
        both(21, "not even all", NONE, NONE, x.mended(0), x.mended(1));
    }

    // ---- FORETOLD (nothing changes); refused, and nothing changes.

    private static void stirred(UphillOnly x) {
        Bench.done(x, "town 5;corner 0 1 9;corner 1 5 5;corner 2 9 1;half 20;stuck 2;even");
        Bench.done(x, "paved 0 1 7;stair 1 2 5;level 0 2 6;bridge 2 3 4;errand 0 2;errand 1 0");
        x.keep(0);
        x.go(2);
        x.keep(1);
        x.rest(3);
        x.walk(0);
        x.walk(1);
        x.seen(0, 1, 0);
        Bench.tell(x, "half 25;stuck 3");
    }

    private static void foretoldChangesNothing() {
        UphillOnly twin = new UphillOnly();
        UphillOnly x = new UphillOnly();
        stirred(twin);
        stirred(x);
        for (int what = 0; what < 2; what++) {
            x.served();
            x.law(what);
            x.rope(what);
            x.mended(what);
        }
        Bench.alike(18, "served, law, rope, mended", twin, x);
    }

    private static void refusedChangesNothing() {
        for (int what : new int[] {-1, 2}) {
            Bench.refused(19, "law(" + what + ")", OUTSIDE, BoundaryErrandsTest::stirred, x -> x.law(what));
            Bench.refused(20, "rope(" + what + ")", OUTSIDE, BoundaryErrandsTest::stirred, x -> x.rope(what));
            Bench.refused(21, "mended(" + what + ")", OUTSIDE, BoundaryErrandsTest::stirred, x -> x.mended(what));
        }
    }
}
