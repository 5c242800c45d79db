import java.util.function.Consumer;
import java.util.function.ToIntFunction;

/** What the boundary tests share: towns told in texts, answers held against those due, refused calls that change nothing. */
final class Bench {
    static final int NONE = UphillOnly.NONE, UNKNOWN = UphillOnly.UNKNOWN, OUTSIDE = UphillOnly.OUTSIDE;
    static final int NOT = UphillOnly.NOT, FULL = UphillOnly.FULL;
    static final int LEAST = Integer.MIN_VALUE, MOST = Integer.MAX_VALUE;
    private static int wrong = 0;

    private Bench() { }

    static void due(int promise, String what, long want, long got) {
        if (got != want) {
            wrong++;
            System.out.println("promise " + promise + ": " + what + " answered " + got + ", due is " + want);
        }
    }

    static void end() {
        System.exit(wrong == 0 ? 0 : 1);
    }

    /** Writes a text's signs, eight to a call; answers what the last call answered. */
    static int tell(UphillOnly x, String text) {
        int length = 0;
        for (int at = 0; at < text.length(); at += 8) {
            int n = Math.min(8, text.length() - at);
            long bytes = 0;
            for (int i = 0; i < n; i++) {
                bytes |= (long) (text.charAt(at + i) & 255) << 8 * i;
            }
            length = x.write(bytes, n);
        }
        return length;
    }

    static void done(UphillOnly x, String text) {
        tell(x, text);
        due(5, "town() of '" + text + "'", text.split(";").length, x.town());
    }

    static UphillOnly townOf(String... texts) {
        UphillOnly x = new UphillOnly();
        for (String text : texts) {
            done(x, text);
        }
        return x;
    }

    static String lines(int many, String line) {
        return (line + ";").repeat(many - 1) + line;
    }

    /** Waits until a minute, however far it is. */
    static void restTo(UphillOnly x, int minute) {
        for (int i = 0; i < 12 && x.here(1) < minute; i++) {
            x.rest(Math.min(9999, minute - x.here(1)));
        }
    }

    /** A call is refused, and an object on which it was made answers all that comes like its twin on which it was not. */
    static void refused(int promise, String what, int want, Consumer<UphillOnly> ahead, ToIntFunction<UphillOnly> call) {
        UphillOnly called = new UphillOnly();
        UphillOnly twin = new UphillOnly();
        ahead.accept(called);
        ahead.accept(twin);
        due(promise, what, want, call.applyAsInt(called));
        alike(promise, what, twin, called);
    }

    static void alike(int promise, String what, UphillOnly twin, UphillOnly called) {
        String[] want = portrait(twin).split("\n");
        String[] got = portrait(called).split("\n");
        for (int i = 0; i < Math.max(want.length, got.length); i++) {
            String due = i < want.length ? want[i] : "nothing";
            String is = i < got.length ? got[i] : "nothing";
            if (!due.equals(is)) {
                wrong++;
                System.out.println("promise " + promise + ": " + what + " changed something: " + is + ", due is " + due);
                return;
            }
        }
    }

    /** What an object answers, to the last thing that it holds; it is used up by this (less than 400 of its 512 calls). */
    private static String portrait(UphillOnly x) {
        StringBuilder p = new StringBuilder();
        portraitOfTown(x, p);
        portraitOfWays(x, p);
        for (int k = 0; k < 2; k++) {
            row(p, "back(" + k + ")", x.back(k));
            row(p, "then here(0)", x.here(0));
            row(p, "then here(1)", x.here(1));
        }
        row(p, "fault()", x.fault());
        row(p, "town()", x.town());
        portraitOfTown(x, p);
        row(p, "burn()", x.burn());
        row(p, "forget()", x.forget());
        row(p, "erase()", x.erase());
        return p.toString();
    }

    private static void portraitOfTown(UphillOnly x, StringBuilder p) {
        for (int what = 0; what < 9; what++) {
            row(p, "count(" + what + ")", x.count(what));
        }
        for (int what = 0; what < 4; what++) {
            row(p, "here(" + what + ")", x.here(what));
        }
        int corners = x.count(0);
        int streets = x.count(1);
        for (int c = 0; c < corners; c++) {
            row(p, "corner(" + c + ", 0)", x.corner(c, 0));
            row(p, "corner(" + c + ", 1)", x.corner(c, 1));
        }
        for (int s = 0; s < streets; s++) {
            for (int what = 0; what < 4; what++) {
                row(p, "street(" + s + ", " + what + ")", x.street(s, what));
            }
            row(p, "as(" + s + ", 0)", x.as(s, 0));
        }
    }

    private static void portraitOfWays(UphillOnly x, StringBuilder p) {
        int corners = x.count(0);
        for (int a = 0; a < corners; a++) {
            row(p, "reach(" + a + ", 0)", x.reach(a, 0));
            row(p, "reach(" + a + ", 1)", x.reach(a, 1));
            row(p, "cut(" + a + ")", x.cut(a));
            row(p, "soonest(0, " + a + ", 9)", x.soonest(0, a, 9));
            row(p, "home(0, " + a + ")", x.home(0, a));
            for (int b = 0; b < corners; b++) {
                row(p, "sure(" + a + ", " + b + ", 0)", x.sure(a, b, 0));
                row(p, "sure(" + a + ", " + b + ", 1)", x.sure(a, b, 1));
            }
        }
        row(p, "served()", x.served());
        for (int what = 0; what < 2; what++) {
            row(p, "law(" + what + ")", x.law(what));
            row(p, "rope(" + what + ")", x.rope(what));
            row(p, "mended(" + what + ")", x.mended(what));
            row(p, "judge(0, " + what + ")", x.judge(0, what));
            row(p, "judge(60, " + what + ")", x.judge(60, what));
        }
    }

    private static void row(StringBuilder p, String call, int answer) {
        p.append(call).append(" answered ").append(answer).append('\n');
    }
}
