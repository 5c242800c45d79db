/** The boundary cases of what a text has told: corner, street, as (promises 6 to 8). */
public final class BoundaryTownTest {
    private static final int UNKNOWN = Bench.UNKNOWN, OUTSIDE = Bench.OUTSIDE, NOT = Bench.NOT;
    private static final int LEAST = Bench.LEAST, MOST = Bench.MOST;
    private static final int PAVED = 0, LEVEL = 1, STAIR = 2, BRIDGE = 3;
    private static final String[] KINDS = {"paved", "level", "stair", "bridge"};
    private static final String[] LAWS = {"up", "even", "down"};

    public static void main(String[] args) {
        promise06CornersThatThereAre();
        promise06WhatIsAsked();
        promise06HeightsAtTheirBounds();
        promise06StuckLeavesItAsByDay();
        promise06RefusedChangesNothing();
        promise07StreetsThatThereAre();
        promise07WhatIsAsked();
        promise07MinutesAtTheirBounds();
        promise07RefusedChangesNothing();
        promise08KindsOverOneAnother();
        promise08Order();
        promise08PavedAtItsBounds();
        promise08LevelAlways();
        promise08StairAtItsBounds();
        promise08BridgeAtItsBounds();
        promise08EveryRise();
        promise08AsItsScrewsAre();
        promise08RefusedChangesNothing();
        Bench.end();
    }

    private static void due(int promise, String what, long want, long got) {
        Bench.due(promise, what, want, got);
    }

    // ---- promise 6: Of a CORNER: HEIGHT by DAY (0), by NIGHT, as its SCREW is (1), 1 STUCK, 0 (2). UNKNOWN; OUTSIDE.

    private static void promise06CornersThatThereAre() {
        for (int n = 2; n <= 8; n++) {
            UphillOnly x = Bench.townOf("town " + n + ";corner 0 3 4;corner " + (n - 1) + " 98 97;stuck 0");
            due(6, "corner(0, 0) of " + n, 3, x.corner(0, 0));
            due(6, "corner(n less 1, 0) of " + n, 98, x.corner(n - 1, 0));
            due(6, "corner(n less 1, 1) of " + n, 97, x.corner(n - 1, 1));
            for (int c : new int[] {-1, n, n + 1, 8, 32, 64, LEAST, MOST}) {
                for (int what = -1; what <= 3; what++) {
                    due(6, "corner(" + c + ", " + what + ") of " + n, UNKNOWN, x.corner(c, what));
                }
            }
        }
    }

    private static void promise06WhatIsAsked() {
        UphillOnly x = Bench.townOf("corner 3 5 6;stuck 2");
        due(6, "corner(3, 0)", 5, x.corner(3, 0));
        due(6, "corner(3, 1)", 6, x.corner(3, 1));
        due(6, "corner(3, 2)", 0, x.corner(3, 2));
        due(6, "corner(2, 2)", 1, x.corner(2, 2));
        for (int what : new int[] {-1, 3, LEAST, MOST}) {
            due(6, "corner(3, " + what + ")", OUTSIDE, x.corner(3, what));
        }
    }

    private static void promise06HeightsAtTheirBounds() {
        UphillOnly x = Bench.townOf("corner 0 0 99;corner 1 99 0;corner 2 0 0;corner 3 99 99");
        int[][] heights = {{0, 99}, {99, 0}, {0, 0}, {99, 99}};
        for (int c = 0; c < 4; c++) {
            due(6, "corner(" + c + ", 0)", heights[c][0], x.corner(c, 0));
            due(6, "corner(" + c + ", 1)", heights[c][1], x.corner(c, 1));
        }
    }

    private static void promise06StuckLeavesItAsByDay() {
        for (int n = 2; n <= 8; n += 6) {
            UphillOnly x = Bench.townOf("town " + n, "corner 0 1 99;stuck 0;corner " + (n - 1) + " 99 0;stuck " + (n - 1));
            due(6, "by DAY, STUCK", 1, x.corner(0, 0));
            due(6, "by NIGHT, STUCK", 1, x.corner(0, 1));
            due(6, "STUCK", 1, x.corner(0, 2));
            due(6, "the last by NIGHT, STUCK", 99, x.corner(n - 1, 1));
            due(6, "the last, STUCK", 1, x.corner(n - 1, 2));
            Bench.done(x, "stuck 0");
            due(6, "STUCK twice", 1, x.corner(0, 2));
            Bench.done(x, "free 0");
            due(6, "by NIGHT, free", 99, x.corner(0, 1));
            due(6, "free", 0, x.corner(0, 2));
            Bench.done(x, "free 0");
            due(6, "free twice", 0, x.corner(0, 2));
            due(6, "the last, STUCK still", 1, x.corner(n - 1, 2));
            Bench.done(x, "stuck 0;corner 0 7 8");
            due(6, "told while STUCK, by NIGHT", 7, x.corner(0, 1));
            Bench.done(x, "free 0");
            due(6, "told while STUCK, free then", 8, x.corner(0, 1));
        }
    }

    private static void stirred(UphillOnly x) {
        Bench.done(x, "town 5;corner 0 1 9;corner 1 5 5;corner 2 9 1;half 20;stuck 2;even");
        Bench.done(x, "paved 0 1 7;stair 1 2 5;level 0 2 6;bridge 2 3 4;errand 0 2;errand 2 0");
        x.keep(0);
        x.go(2);
        x.keep(1);
        x.walk(0);
        x.walk(1);
        x.seen(0, 1, 0);
        Bench.tell(x, "half 25;stuck 3");
    }

    private static void promise06RefusedChangesNothing() {
        Bench.refused(6, "corner(5, 0)", UNKNOWN, BoundaryTownTest::stirred, x -> x.corner(5, 0));
        Bench.refused(6, "corner(-1, 0)", UNKNOWN, BoundaryTownTest::stirred, x -> x.corner(-1, 0));
        Bench.refused(6, "corner(4, 3)", OUTSIDE, BoundaryTownTest::stirred, x -> x.corner(4, 3));
        Bench.refused(6, "corner(4, -1)", OUTSIDE, BoundaryTownTest::stirred, x -> x.corner(4, -1));
        Bench.refused(6, "corner(5, 3)", UNKNOWN, BoundaryTownTest::stirred, x -> x.corner(5, 3));
    }

    // ---- promise 7: Of a STREET: its CORNERS (0, 1), KIND (2), MINUTES (3). UNKNOWN; OUTSIDE.

    private static void promise07StreetsThatThereAre() {
        UphillOnly none = new UphillOnly();
        for (int s : new int[] {-1, 0, 1, 12, LEAST, MOST}) {
            due(7, "street(" + s + ", 0) of none", UNKNOWN, none.street(s, 0));
        }
        UphillOnly x = new UphillOnly();
        for (int many = 1; many <= 12; many++) {
            Bench.done(x, KINDS[many % 4] + " " + many % 4 + " " + (many + 1) % 4 + " " + (many + 80));
            int last = many - 1;
            due(7, "first corner of " + last, many % 4, x.street(last, 0));
            due(7, "second corner of " + last, (many + 1) % 4, x.street(last, 1));
            due(7, "KIND of " + last, many % 4, x.street(last, 2));
            due(7, "MINUTES of " + last, many + 80, x.street(last, 3));
            due(7, "MINUTES of the first of " + many, 81, x.street(0, 3));
            for (int s : new int[] {-1, many}) {
                due(7, "street(" + s + ", 0) of " + many, UNKNOWN, x.street(s, 0));
            }
        }
        for (int s : new int[] {-1, 12, 13, LEAST, MOST}) {
            for (int what = -1; what <= 4; what++) {
                due(7, "street(" + s + ", " + what + ") of 12", UNKNOWN, x.street(s, what));
            }
        }
    }

    private static void promise07WhatIsAsked() {
        UphillOnly x = Bench.townOf("bridge 3 1 44");
        int[] answers = {OUTSIDE, 3, 1, 3, 44, OUTSIDE};
        for (int what = -1; what <= 4; what++) {
            due(7, "street(0, " + what + ")", answers[what + 1], x.street(0, what));
        }
        due(7, "street(0, least)", OUTSIDE, x.street(0, LEAST));
        due(7, "street(0, most)", OUTSIDE, x.street(0, MOST));
    }

    private static void promise07MinutesAtTheirBounds() {
        UphillOnly x = Bench.townOf("paved 0 1 1;level 0 1 99;stair 0 1 1;bridge 0 1 99");
        for (int s = 0; s < 4; s++) {
            due(7, "MINUTES of " + s, s % 2 == 0 ? 1 : 99, x.street(s, 3));
            due(7, "KIND of " + s, s, x.street(s, 2));
        }
    }

    private static void promise07RefusedChangesNothing() {
        Bench.refused(7, "street(4, 0)", UNKNOWN, BoundaryTownTest::stirred, x -> x.street(4, 0));
        Bench.refused(7, "street(-1, 0)", UNKNOWN, BoundaryTownTest::stirred, x -> x.street(-1, 0));
        Bench.refused(7, "street(3, 4)", OUTSIDE, BoundaryTownTest::stirred, x -> x.street(3, 4));
        Bench.refused(7, "street(3, -1)", OUTSIDE, BoundaryTownTest::stirred, x -> x.street(3, -1));
        Bench.refused(7, "street(4, 4)", UNKNOWN, BoundaryTownTest::stirred, x -> x.street(4, 4));
    }

    // ---- promise 8: A STREET taken as a KIND (0 .. 4). UNKNOWN; OUTSIDE; NOT: it is none such.

    private static void promise08KindsOverOneAnother() {
        UphillOnly x = Bench.townOf("corner 1 9 9;paved 0 1 1;level 0 1 1;stair 0 1 1;bridge 0 1 1");
        boolean[][] is = {
            {true, true, false, false, false}, {true, false, false, true, false},
            {true, true, true, false, false}, {true, false, false, true, true}};
        int[] may = {3, 15, 3, 11};
        for (int s = 0; s < 4; s++) {
            for (int kind = 0; kind < 5; kind++) {
                due(8, "a " + KINDS[s] + " as " + kind, is[s][kind] ? may[s] : NOT, x.as(s, kind));
            }
        }
    }

    private static void promise08Order() {
        UphillOnly x = Bench.townOf("paved 0 1 1");
        due(8, "as(0, 0)", 0, x.as(0, 0));
        due(8, "as(0, 4)", NOT, x.as(0, 4));
        for (int kind : new int[] {-1, 5, LEAST, MOST}) {
            due(8, "as(0, " + kind + "): OUTSIDE ahead of NOT", OUTSIDE, x.as(0, kind));
        }
        for (int s : new int[] {-1, 1, LEAST, MOST}) {
            for (int kind = -1; kind <= 5; kind++) {
                due(8, "as(" + s + ", " + kind + "): UNKNOWN ahead", UNKNOWN, x.as(s, kind));
            }
        }
        UphillOnly full = Bench.townOf(Bench.lines(12, "level 0 1 1"));
        due(8, "as(11, 3)", 15, full.as(11, 3));
        due(8, "as(12, 3)", UNKNOWN, full.as(12, 3));
        due(8, "as(0, 0) of no streets", UNKNOWN, new UphillOnly().as(0, 0));
    }

    /** A street from height a to height b, by day and night alike: the answer of as. */
    private static int asOf(String law, String kind, int a, int b) {
        return Bench.townOf(law + ";corner 0 " + a + " " + a + ";corner 1 " + b + " " + b + ";" + kind + " 0 1 1").as(0, 0);
    }

    private static void promise08PavedAtItsBounds() {
        due(8, "paved, UP, at one height", 0, asOf("up", "paved", 50, 50));
        due(8, "paved, UP, by 1", 3, asOf("up", "paved", 50, 51));
        due(8, "paved, UP, lower by 1", 12, asOf("up", "paved", 51, 50));
        due(8, "paved, UP, by 99", 3, asOf("up", "paved", 0, 99));
        due(8, "paved, EVEN, at one height", 15, asOf("even", "paved", 50, 50));
        due(8, "paved, EVEN, by 1", 3, asOf("even", "paved", 50, 51));
        due(8, "paved, EVEN, lower by 1", 12, asOf("even", "paved", 51, 50));
        due(8, "paved, DOWN, at one height", 15, asOf("down", "paved", 50, 50));
        due(8, "paved, DOWN, by 9", 15, asOf("down", "paved", 50, 59));
        due(8, "paved, DOWN, by 10", 3, asOf("down", "paved", 50, 60));
        due(8, "paved, DOWN, lower by 9", 15, asOf("down", "paved", 59, 50));
        due(8, "paved, DOWN, lower by 10", 12, asOf("down", "paved", 60, 50));
        due(8, "paved, DOWN, by 99", 3, asOf("down", "paved", 0, 99));
    }

    private static void promise08LevelAlways() {
        for (String law : LAWS) {
            due(8, "level, at one height", 15, asOf(law, "level", 0, 0));
            due(8, "level, by 99", 15, asOf(law, "level", 0, 99));
            due(8, "level, lower by 99", 15, asOf(law, "level", 99, 0));
        }
    }

    private static void promise08StairAtItsBounds() {
        for (String law : LAWS) {
            due(8, "stair, at one height, " + law, 0, asOf(law, "stair", 7, 7));
            due(8, "stair, by 1, " + law, 3, asOf(law, "stair", 7, 8));
            due(8, "stair, lower by 1, " + law, 12, asOf(law, "stair", 8, 7));
            due(8, "stair, by 20, " + law, 3, asOf(law, "stair", 0, 20));
            due(8, "stair, by 21, " + law, 0, asOf(law, "stair", 0, 21));
            due(8, "stair, lower by 20, " + law, 12, asOf(law, "stair", 99, 79));
            due(8, "stair, lower by 21, " + law, 0, asOf(law, "stair", 99, 78));
        }
    }

    private static void promise08BridgeAtItsBounds() {
        for (String law : LAWS) {
            due(8, "bridge, at one height, " + law, 10, asOf(law, "bridge", 7, 7));
            due(8, "bridge, by 1, " + law, 11, asOf(law, "bridge", 7, 8));
            due(8, "bridge, lower by 1, " + law, 14, asOf(law, "bridge", 8, 7));
            due(8, "bridge, by 99, " + law, 11, asOf(law, "bridge", 0, 99));
            due(8, "bridge, lower by 99, " + law, 14, asOf(law, "bridge", 99, 0));
        }
    }

    private static boolean may(int kind, int law, int rise, boolean dark) {
        switch (kind) {
            case PAVED: return law == 0 ? rise >= 1 : law == 1 ? rise >= 0 : rise >= -9;
            case STAIR: return rise >= 1 && rise <= 20;
            case BRIDGE: return dark || rise >= 1;
            default: return kind == LEVEL;
        }
    }

    /** By day every rise there is, by night another one that is as far from the first as can be. */
    private static void promise08EveryRise() {
        for (int day = -99; day <= 99; day++) {
            int night = day > 0 ? day - 99 : day + 99;
            String heights = "corner 0 " + Math.max(0, -day) + " " + Math.max(0, -night)
                + ";corner 1 " + Math.max(0, day) + " " + Math.max(0, night);
            UphillOnly x = Bench.townOf(heights, "paved 0 1 1;level 0 1 1;stair 0 1 1;bridge 0 1 1");
            for (int law = 0; law < 3; law++) {
                Bench.done(x, LAWS[law]);
                for (int kind = 0; kind < 4; kind++) {
                    int want = (may(kind, law, day, false) ? 1 : 0) + (may(kind, law, night, true) ? 2 : 0)
                        + (may(kind, law, -day, false) ? 4 : 0) + (may(kind, law, -night, true) ? 8 : 0);
                    due(8, KINDS[kind] + " by " + LAWS[law] + ", rise " + day + ", " + night, want, x.as(kind, 0));
                }
            }
        }
    }

    private static void promise08AsItsScrewsAre() {
        UphillOnly x = Bench.townOf("corner 0 10 50;corner 1 30 29;stair 0 1 1;paved 0 1 1");
        due(8, "stair, as it is", 1, x.as(0, 2));
        due(8, "paved, as it is", 9, x.as(1, 1));
        Bench.done(x, "stuck 0");
        due(8, "stair, 0 STUCK", 3, x.as(0, 2));
        due(8, "paved, 0 STUCK", 3, x.as(1, 1));
        Bench.done(x, "free 0;stuck 1");
        due(8, "stair, 1 STUCK: lower by 20", 9, x.as(0, 2));
        Bench.done(x, "corner 0 10 51");
        due(8, "stair, 1 STUCK: lower by 21", 1, x.as(0, 2));
    }

    private static void promise08RefusedChangesNothing() {
        Bench.refused(8, "as(4, 0)", UNKNOWN, BoundaryTownTest::stirred, x -> x.as(4, 0));
        Bench.refused(8, "as(-1, 0)", UNKNOWN, BoundaryTownTest::stirred, x -> x.as(-1, 0));
        Bench.refused(8, "as(0, 5)", OUTSIDE, BoundaryTownTest::stirred, x -> x.as(0, 5));
        Bench.refused(8, "as(0, -1)", OUTSIDE, BoundaryTownTest::stirred, x -> x.as(0, -1));
        Bench.refused(8, "as(0, 2)", NOT, BoundaryTownTest::stirred, x -> x.as(0, 2));
    }
}
