import java.util.ArrayList;
import java.util.List;
import java.util.Random;
import java.util.regex.Matcher;
import java.util.regex.Pattern;

/** Long runs of drawn calls, each answer held against a model that is written another way: minute by minute. */
public final class ModelTest {
    private static final int RUNS = 1500, CALLS = 150;
    private static int wrong = 0;

    public static void main(String[] args) {
        for (int run = 0; run < RUNS && wrong < 10; run++) {
            new Run(run).play();
        }
        System.exit(wrong == 0 ? 0 : 1);
    }

    /** One object beside its model, and the calls so far. */
    private static final class Run {
        private final int seed;
        private final Random draw;
        private final UphillOnly x = new UphillOnly();
        private final Model m = new Model();
        private final StringBuilder calls = new StringBuilder();

        Run(int seed) {
            this.seed = seed;
            this.draw = new Random(seed);
        }

        void play() {
            tellAndDo();
            for (int i = 0; i < CALLS && wrong < 10; i++) {
                call(draw.nextInt(34));
            }
        }

        private void same(String name, long want, long got) {
            calls.append(name).append(" -> ").append(got).append('\n');
            if (want != got) {
                wrong++;
                System.out.println("run " + seed + ": " + name + " answered " + got + ", due is " + want);
                System.out.println(calls);
            }
        }

        private int upTo(int n) {
            return draw.nextInt(n);
        }

        /** Mostly in 0 .. n less 1, at times beside it. */
        private int about(int n) {
            return upTo(12) == 0 ? upTo(4) == 0 ? draw.nextInt() : upTo(n + 4) - 2 : upTo(Math.max(1, n));
        }

        private void call(int which) {
            int a = about(m.n);
            int b = about(m.n);
            int half = about(2);
            int what = about(2);
            int s = about(m.streets.size());
            int t = upTo(3) == 0 ? about(10000) : about(4 * m.half);
            switch (which) {
                case 0, 1, 2 -> tellAndDo();
                case 3 -> same("erase", m.erase(), x.erase());
                case 4 -> same("fault", m.fault(), x.fault());
                case 5 -> { int k = about(3); same("corner " + a + " " + k, m.corner(a, k), x.corner(a, k)); }
                case 6 -> { int k = about(4); same("street " + s + " " + k, m.street(s, k), x.street(s, k)); }
                case 7, 8 -> { int k = about(5); same("as " + s + " " + k, m.as(s, k), x.as(s, k)); }
                case 9, 10, 11 -> same("go " + s, m.go(s), x.go(s));
                case 12, 13 -> {
                    int k = upTo(4) == 0 ? about(10000) : about(m.half);
                    same("rest " + k, m.rest(k), x.rest(k));
                }
                case 14 -> { int k = about(4); same("here " + k, m.here(k), x.here(k)); }
                case 15 -> same("keep " + what, m.keep(what), x.keep(what));
                case 16 -> same("back " + what, m.back(what), x.back(what));
                case 17 -> same("reach " + a + " " + half, m.reach(a, half), x.reach(a, half));
                case 18, 19 -> same("soonest " + a + " " + b + " " + t, m.soonest(a, b, t), x.soonest(a, b, t));
                case 20 -> same("home " + a + " " + b, m.home(a, b), x.home(a, b));
                case 21 -> same("cut " + a, m.cut(a), x.cut(a));
                case 22 -> same("served", m.served(), x.served());
                case 23 -> same("law " + what, m.law(what), x.law(what));
                case 24 -> same("rope " + what, m.rope(what), x.rope(what));
                case 25 -> same("mended " + what, m.mended(what), x.mended(what));
                case 26, 27 -> {
                    int on = upTo(3) == 0 ? a : m.neighbour(a);
                    same("walk " + on, m.walk(on), x.walk(on));
                }
                case 28 -> { if (upTo(3) == 0) { same("burn", m.burn(), x.burn()); } }
                case 29 -> same("judge " + t + " " + what, m.judge(t, what), x.judge(t, what));
                case 30 -> same("seen " + a + " " + b + " " + half, m.seen(a, b, half), x.seen(a, b, half));
                case 31 -> { if (upTo(4) == 0) { same("forget", m.forget(), x.forget()); } }
                case 32 -> same("sure " + a + " " + b + " " + half, m.sure(a, b, half), x.sure(a, b, half));
                default -> { int k = about(9); same("count " + k, m.count(k), x.count(k)); }
            }
        }

        private void tellAndDo() {
            String text = drawnText();
            for (int at = 0; at < text.length(); ) {
                int n = Math.min(1 + upTo(8), text.length() - at);
                long bytes = draw.nextLong();
                for (int i = 0; i < n; i++) {
                    bytes = bytes & ~(255L << 8 * i) | (long) text.charAt(at + i) << 8 * i;
                }
                same("write '" + text.substring(at, at + n) + "'", m.write(bytes, n), x.write(bytes, n));
                at += n;
            }
            int n = upTo(3) == 0 ? about(9) : 0;
            same("write " + n, m.write(n, n), x.write(n, n));
            same("fault", m.fault(), x.fault());
            same("town", m.town(), x.town());
            if (upTo(4) != 0) {
                same("erase", m.erase(), x.erase());
            }
        }

        private String drawnText() {
            StringBuilder text = new StringBuilder();
            int lines = 1 + upTo(upTo(6) == 0 ? 15 : 11);
            int n = m.n;
            for (int i = 0; i < lines; i++) {
                String line = upTo(25) == 0 ? "town " + (n = 2 + upTo(7)) : drawnLine(n);
                text.append(i == 0 ? "" : ";").append(line);
            }
            for (int i = upTo(6) == 0 ? 1 + upTo(2) : 0; i > 0; i--) {
                damage(text);
            }
            return text.toString();
        }

        private String drawnLine(int n) {
            int a = upTo(n);
            int b = upTo(30) == 0 ? a : (a + 1 + upTo(n - 1)) % n;
            switch (upTo(16)) {
                case 0, 1, 2, 3: return "corner " + a + " " + upTo(upTo(2) == 0 ? 25 : 100) + " " + upTo(40);
                case 4, 5: return "stuck " + a;
                case 6: return "free " + a;
                case 7: return "half " + (upTo(4) == 0 ? 10 + upTo(990) : 10 + upTo(60));
                case 8: return new String[] {"up", "even", "down"}[upTo(3)];
                case 9, 10: return "errand " + a + " " + b;
                case 11: return upTo(5) == 0 ? "idle" : "errand " + b + " " + a;
                default: return new String[] {"paved", "level", "stair", "bridge", "paved"}[upTo(5)]
                    + " " + a + " " + b + " " + (1 + upTo(upTo(3) == 0 ? 99 : 25));
            }
        }

        private void damage(StringBuilder text) {
            int at = upTo(text.length());
            String signs = " ;0123456789abcdeloprstuvw A\u00ff\0/:`{";
            switch (upTo(3)) {
                case 0: text.deleteCharAt(at); break;
                case 1: text.insert(at, signs.charAt(upTo(signs.length()))); break;
                default: text.setCharAt(at, signs.charAt(upTo(signs.length())));
            }
            if (text.length() == 0) {
                text.append(' ');
            }
        }
    }

    private record Way(int a, int b, int kind, int minutes) { }

    private record Token(String text, int place) { }

    /** The document, told again in plain lists. */
    private static final class Model {
        private static final int NONE = -1, UNKNOWN = -2, OUTSIDE = -3, NOT = -4, FULL = -5;
        private static final Pattern TOKENS = Pattern.compile("[a-z]+|[0-9]+|[^ ]", Pattern.DOTALL);
        private static final List<String> KINDS = List.of("paved", "level", "stair", "bridge");
        private static final List<String> LAWS = List.of("up", "even", "down");
        int n = 4;
        int half = 60;
        int law = 0;
        int[] day = new int[8];
        int[] night = new int[8];
        boolean[] stuck = new boolean[8];
        List<Way> streets = new ArrayList<>();
        List<int[]> errands = new ArrayList<>();
        private String text = "";
        private int at = 0;
        private int minute = 0;
        private int[][] kept = new int[2][];
        private List<Integer> walk = new ArrayList<>();
        private List<int[]> steps = new ArrayList<>();
        private int rope = NONE;

        private Model copy() {
            Model c = new Model();
            c.n = n;
            c.half = half;
            c.law = law;
            c.day = day.clone();
            c.night = night.clone();
            c.stuck = stuck.clone();
            c.streets = new ArrayList<>(streets);
            c.errands = new ArrayList<>(errands);
            return c;
        }

        private boolean no(int corner) {
            return corner < 0 || corner >= n;
        }

        int neighbour(int corner) {
            int from = walk.isEmpty() ? corner : walk.get(walk.size() - 1);
            for (Way w : streets) {
                if (w.a == from || w.b == from) {
                    return w.a + w.b - from;
                }
            }
            return corner;
        }

        int write(long bytes, int many) {
            if (many < 1 || many > 8) {
                return OUTSIDE;
            }
            if (text.length() + many > 200) {
                return FULL;
            }
            for (int i = 0; i < many; i++) {
                text += (char) (bytes >>> 8 * i & 255);
            }
            return text.length();
        }

        int erase() {
            int had = text.length();
            text = "";
            return had;
        }

        int fault() {
            return copy().perform(text);
        }

        int town() {
            if (fault() != NONE) {
                return NOT;
            }
            perform(text);
            int lines = text.split(";").length;
            text = "";
            at = 0;
            minute = 0;
            kept = new int[2][];
            walk.clear();
            steps.clear();
            return lines;
        }

        private int perform(String told) {
            List<Token> tokens = new ArrayList<>();
            Matcher matcher = TOKENS.matcher(told);
            while (matcher.find()) {
                tokens.add(new Token(matcher.group(), matcher.start()));
            }
            tokens.add(new Token("", told.length()));
            int i = 0;
            for (int line = 1; ; line++) {
                String word = tokens.get(i).text;
                int[][] bounds = boundsBehind(word);
                if (bounds == null) {
                    return tokens.get(i).place;
                }
                int[] told3 = new int[3];
                for (int k = 0; k < bounds.length; k++) {
                    Token token = tokens.get(i + 1 + k);
                    if (!token.text.matches("[0-9]{1,3}")) {
                        return token.place;
                    }
                    told3[k] = Integer.parseInt(token.text);
                    boolean twice = k == 1 && !word.equals("corner") && told3[0] == told3[1];
                    if (told3[k] < bounds[k][0] || told3[k] > bounds[k][1] || twice) {
                        return token.place;
                    }
                }
                doLine(word, told3[0], told3[1], told3[2]);
                i += 1 + bounds.length;
                if (tokens.get(i).text.isEmpty()) {
                    return NONE;
                }
                if (!tokens.get(i).text.equals(";") || line == 12) {
                    return tokens.get(i).place;
                }
                i++;
            }
        }

        private int[][] boundsBehind(String word) {
            int[] c = {0, n - 1};
            if (KINDS.contains(word)) {
                return streets.size() == 12 ? null : new int[][] {c, c, {1, 99}};
            }
            if (LAWS.contains(word) || word.equals("idle")) {
                return new int[0][];
            }
            return switch (word) {
                case "town" -> new int[][] {{2, 8}};
                case "corner" -> new int[][] {c, {0, 99}, {0, 99}};
                case "stuck", "free" -> new int[][] {c};
                case "half" -> new int[][] {{10, 999}};
                case "errand" -> errands.size() == 8 ? null : new int[][] {c, c};
                default -> null;
            };
        }

        private void doLine(String word, int a, int b, int c) {
            if (KINDS.contains(word)) {
                streets.add(new Way(a, b, KINDS.indexOf(word), c));
            } else if (LAWS.contains(word)) {
                law = LAWS.indexOf(word);
            } else if (word.equals("idle")) {
                errands.clear();
            } else if (word.equals("errand")) {
                errands.add(new int[] {a, b});
            } else if (word.equals("half")) {
                half = a;
            } else if (word.equals("corner")) {
                day[a] = b;
                night[a] = c;
            } else if (word.equals("town")) {
                n = a;
                half = 60;
                law = 0;
                day = new int[8];
                night = new int[8];
                stuck = new boolean[8];
                streets.clear();
                errands.clear();
            } else {
                stuck[a] = word.equals("stuck");
            }
        }

        private int height(int corner, boolean dark) {
            return dark && !stuck[corner] ? night[corner] : day[corner];
        }

        private boolean may(int street, int from, boolean dark) {
            Way w = streets.get(street);
            int low = height(from, dark);
            int high = height(w.a + w.b - from, dark);
            if (street == rope || w.kind == 1) {
                return true;
            }
            if (w.kind == 2) {
                return high > low && high - low <= 20;
            }
            if (w.kind == 3) {
                return dark || high > low;
            }
            return law == 0 ? high > low : law == 1 ? high >= low : !(low - high > 9);
        }

        private boolean canStep(int street, int from, int t) {
            Way w = streets.get(street);
            boolean there = w.a == from || w.b == from;
            boolean inOneHalf = t / half == (t + w.minutes - 1) / half;
            return there && inOneHalf && may(street, from, t / half % 2 == 1);
        }

        /** By corner the first minute there, minute by minute, up to a last one. */
        private int[] spread(int from, int t0, int last) {
            boolean[][] there = new boolean[last - t0 + 100][n];
            int[] first = new int[n];
            java.util.Arrays.fill(first, NONE);
            there[0][from] = true;
            for (int t = t0; t <= last; t++) {
                for (int c = 0; c < n; c++) {
                    if (!there[t - t0][c]) {
                        continue;
                    }
                    first[c] = first[c] == NONE ? t : first[c];
                    there[t - t0 + 1][c] = true;
                    for (int s = 0; s < streets.size(); s++) {
                        Way w = streets.get(s);
                        if (canStep(s, c, t)) {
                            there[t - t0 + w.minutes][w.a + w.b - c] = true;
                        }
                    }
                }
            }
            return first;
        }

        private int soon(int a, int b, int t) {
            return spread(a, t, t + 2 * half * (n + 1))[b];
        }

        int corner(int corner, int what) {
            if (no(corner)) {
                return UNKNOWN;
            }
            return what < 0 || what > 2 ? OUTSIDE : what == 2 ? stuck[corner] ? 1 : 0 : height(corner, what == 1);
        }

        int street(int s, int what) {
            if (s < 0 || s >= streets.size()) {
                return UNKNOWN;
            }
            Way w = streets.get(s);
            return what < 0 || what > 3 ? OUTSIDE : new int[] {w.a, w.b, w.kind, w.minutes}[what];
        }

        int as(int s, int kind) {
            if (s < 0 || s >= streets.size()) {
                return UNKNOWN;
            }
            if (kind < 0 || kind > 4) {
                return OUTSIDE;
            }
            String[] under = {"01", "03", "012", "034"};
            Way w = streets.get(s);
            if (under[w.kind].indexOf('0' + kind) < 0) {
                return NOT;
            }
            return (may(s, w.a, false) ? 1 : 0) + (may(s, w.a, true) ? 2 : 0)
                + (may(s, w.b, false) ? 4 : 0) + (may(s, w.b, true) ? 8 : 0);
        }

        int go(int s) {
            if (s < 0 || s >= streets.size()) {
                return UNKNOWN;
            }
            if (!canStep(s, at, minute)) {
                return NOT;
            }
            Way w = streets.get(s);
            if (minute + w.minutes > 99999) {
                return FULL;
            }
            at = w.a + w.b - at;
            return minute += w.minutes;
        }

        int rest(int many) {
            return many < 1 || many > 9999 ? OUTSIDE : minute + many > 99999 ? FULL : (minute += many);
        }

        int here(int what) {
            return what < 0 || what > 3 ? OUTSIDE
                : new int[] {at, minute, minute / half % 2, half - minute % half}[what];
        }

        int keep(int k) {
            if (k < 0 || k > 1) {
                return UNKNOWN;
            }
            kept[k] = new int[] {at, minute};
            return minute;
        }

        int back(int k) {
            if (k < 0 || k > 1) {
                return UNKNOWN;
            }
            if (kept[k] == null) {
                return NOT;
            }
            at = kept[k][0];
            return minute = kept[k][1];
        }

        int reach(int corner, int which) {
            if (no(corner)) {
                return UNKNOWN;
            }
            if (which < 0 || which > 1) {
                return OUTSIDE;
            }
            return bitsOf(spread(corner, which * half, (which + 1) * half));
        }

        private static int bitsOf(int[] first) {
            int bits = 0;
            for (int c = 0; c < first.length; c++) {
                bits += first[c] == NONE ? 0 : 1 << c;
            }
            return bits;
        }

        int soonest(int a, int b, int t) {
            return no(a) || no(b) ? UNKNOWN : t < 0 || t > 9999 ? OUTSIDE : soon(a, b, t);
        }

        int home(int a, int b) {
            if (no(a) || no(b)) {
                return UNKNOWN;
            }
            int there = soon(a, b, 0);
            return there == NONE ? NONE : soon(b, a, there);
        }

        int cut(int corner) {
            if (no(corner)) {
                return UNKNOWN;
            }
            if (stuck[corner]) {
                return NOT;
            }
            Model worse = copy();
            worse.stuck[corner] = true;
            int pairs = 0;
            for (int a = 0; a < n; a++) {
                int can = bitsOf(spread(a, 0, 2 * half * (n + 1)));
                int still = bitsOf(worse.spread(a, 0, 2 * half * (n + 1)));
                for (int b = 0; b < n; b++) {
                    pairs += (can >> b & 1) == 1 && (still >> b & 1) == 0 ? 1 : 0;
                }
            }
            return pairs;
        }

        int served() {
            int bits = 0;
            for (int e = 0; e < errands.size(); e++) {
                int[] first = spread(errands.get(e)[0], 0, 2 * half);
                bits += first[errands.get(e)[1]] == NONE ? 0 : 1 << e;
            }
            return bits;
        }

        int law(int what) {
            if (what < 0 || what > 1) {
                return OUTSIDE;
            }
            int[] many = new int[3];
            for (int l = 0; l < 3; l++) {
                Model other = copy();
                other.law = l;
                many[l] = Integer.bitCount(other.served());
            }
            int best = many[0] >= many[1] && many[0] >= many[2] ? 0 : many[1] >= many[2] ? 1 : 2;
            return what == 0 ? best : many[best];
        }

        int rope(int what) {
            if (what < 0 || what > 1) {
                return OUTSIDE;
            }
            int best = NONE;
            int most = streets.isEmpty() ? Integer.bitCount(served()) : -1;
            for (int s = 0; s < streets.size(); s++) {
                Model other = copy();
                other.rope = s;
                int many = Integer.bitCount(other.served());
                if (many > most) {
                    best = s;
                    most = many;
                }
            }
            return what == 0 ? best : most;
        }

        int mended(int what) {
            if (what < 0 || what > 1) {
                return OUTSIDE;
            }
            for (int size = 0; size <= n; size++) {
                for (int set = 0; set < 1 << n; set++) {
                    if (Integer.bitCount(set) == size && servesAllWith(set)) {
                        return what == 0 ? size : set;
                    }
                }
            }
            return NONE;
        }

        private boolean servesAllWith(int set) {
            Model other = copy();
            for (int c = 0; c < n; c++) {
                if ((set >> c & 1) == 1 && !stuck[c]) {
                    return false;
                }
                other.stuck[c] &= (set >> c & 1) == 0;
            }
            return other.served() == (1 << errands.size()) - 1;
        }

        int walk(int corner) {
            if (no(corner)) {
                return UNKNOWN;
            }
            if (walk.size() == 12) {
                return FULL;
            }
            walk.add(corner);
            return walk.size();
        }

        int burn() {
            int had = walk.size();
            walk.clear();
            return had;
        }

        int judge(int t, int what) {
            if (t < 0 || t > 9999 || what < 0 || what > 1) {
                return OUTSIDE;
            }
            if (walk.isEmpty()) {
                return NOT;
            }
            for (int i = 1; i < walk.size(); i++) {
                boolean went = false;
                for (int s = 0; s < streets.size() && !went; s++) {
                    Way w = streets.get(s);
                    if (canStep(s, walk.get(i - 1), t) && w.a + w.b - walk.get(i - 1) == walk.get(i)) {
                        went = true;
                        t += w.minutes;
                    }
                }
                if (!went) {
                    return what == 0 ? i : t;
                }
            }
            return what == 0 ? NONE : t;
        }

        int seen(int a, int b, int which) {
            if (no(a) || no(b)) {
                return UNKNOWN;
            }
            if (which < 0 || which > 1 || a == b) {
                return OUTSIDE;
            }
            if (steps.size() == 12) {
                return FULL;
            }
            steps.add(new int[] {a, b, which});
            return steps.size();
        }

        int forget() {
            int had = steps.size();
            steps.clear();
            return had;
        }

        int sure(int a, int b, int which) {
            if (no(a) || no(b)) {
                return UNKNOWN;
            }
            if (which < 0 || which > 1) {
                return OUTSIDE;
            }
            boolean[][] lower = new boolean[n][n];
            for (int[] step : steps) {
                lower[step[0]][step[1]] |= step[2] == which;
            }
            for (int k = 0; k < n; k++) {
                for (int i = 0; i < n; i++) {
                    for (int j = 0; j < n; j++) {
                        lower[i][j] |= lower[i][k] && lower[k][j];
                    }
                }
            }
            boolean can = true;
            for (int c = 0; c < n; c++) {
                can &= !lower[c][c];
            }
            return (a == b ? can : lower[a][b]) ? 1 : 0;
        }

        int count(int what) {
            int bits = 0;
            for (int c = 0; c < n; c++) {
                bits += stuck[c] ? 1 << c : 0;
            }
            int[] many = {n, streets.size(), law, half, errands.size(), walk.size(), steps.size(), text.length(), bits};
            return what < 0 || what > 8 ? OUTSIDE : many[what];
        }
    }
}
