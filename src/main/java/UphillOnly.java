/** A town of corners that are turned by night, streets that lead uphill only, and one who walks there. */
public final class UphillOnly {
    public static final int NONE = -1, UNKNOWN = -2, OUTSIDE = -3, NOT = -4, FULL = -5;

    private static final int MOST_CORNERS = 8, MOST_STREETS = 12, MOST_ERRANDS = 8;
    private static final int MOST_BYTES = 200, MOST_LINES = 12, MOST_DIGITS = 3, MOST_WRITTEN = 8;
    private static final int MOST_WALK = 12, MOST_STEPS = 12, MOST_KEPT = 2;
    private static final int LAST_MINUTE = 99999, LAST_BEGIN = 9999, LONGEST_REST = 9999, EVER = 1 << 30;
    private static final int FIRST_CORNERS = 4, FIRST_HALF = 60;
    private static final int UP = 0, EVEN = 1, DOWN = 2, LAWS = 3;
    private static final int PAVED = 0, LEVEL = 1, STAIR = 2, BRIDGE = 3;
    private static final int HALVES = 2, STEEPEST_STAIR = 20, DEEPEST_DOWN = 9, ALWAYS_OPEN = 15;
    private static final int KINDS = 5;
    /** By the number that a street's line gives it: its number among the kinds that are over one another. */
    private static final int[] KIND_OF = {1, 3, 2, 4};
    /** By a kind's number among those over one another: the one above it. */
    private static final int[] KIND_ABOVE = {NONE, 0, 1, 0, 3};

    private final Script script;
    private final Ways ways;
    /** The town as it stands, and the one that a text is tried on; they change places when it has no fault. */
    private Town current;
    private Town draft;
    private int stand;
    private int minute;
    private final int[] keptStand;
    private final int[] keptMinute;
    private final int[] walked;
    private int walkedCount;
    private final int[] stepFrom;
    private final int[] stepTo;
    private final int[] stepHalf;
    private int stepCount;

    public UphillOnly() {
        script = new Script();
        ways = new Ways();
        current = new Town();
        draft = new Town();
        keptStand = new int[MOST_KEPT];
        keptMinute = new int[MOST_KEPT];
        walked = new int[MOST_WALK];
        stepFrom = new int[MOST_STEPS];
        stepTo = new int[MOST_STEPS];
        stepHalf = new int[MOST_STEPS];
        startAnew();
    }

    // ---- what is told

    public int write(long bytes, int n) {
        if (n < 1 || n > MOST_WRITTEN) {
            return OUTSIDE;
        }
        if (script.length + n > MOST_BYTES) {
            return FULL;
        }
        for (int i = 0; i < n; i++) {
            script.append((int) (bytes >> 8 * i & 255));
        }
        return script.length;
    }

    public int erase() {
        int had = script.length;
        script.length = 0;
        return had;
    }

    public int fault() {
        draft.copyFrom(current);
        return script.firstFault(draft);
    }

    public int town() {
        draft.copyFrom(current);
        if (script.firstFault(draft) != NONE) {
            return NOT;
        }
        Town old = current;
        current = draft;
        draft = old;
        script.length = 0;
        startAnew();
        return script.lines;
    }

    public int corner(int corner, int what) {
        if (!current.hasCorner(corner)) {
            return UNKNOWN;
        }
        switch (what) {
            case 0:
            case 1:
                return current.heightOf(corner, what, current.stuck);
            case 2:
                return current.stuck >> corner & 1;
            default:
                return OUTSIDE;
        }
    }

    public int street(int street, int what) {
        if (!current.hasStreet(street)) {
            return UNKNOWN;
        }
        switch (what) {
            case 0:
                return current.first[street];
            case 1:
                return current.second[street];
            case 2:
                return current.kind[street];
            case 3:
                return current.minutes[street];
            default:
                return OUTSIDE;
        }
    }

    public int as(int street, int kind) {
        if (!current.hasStreet(street)) {
            return UNKNOWN;
        }
        if (kind < 0 || kind >= KINDS) {
            return OUTSIDE;
        }
        if (!isUnder(current.kind[street], kind)) {
            return NOT;
        }
        return current.openings(street, current.law, current.stuck);
    }

    // ---- one who walks

    public int go(int street) {
        if (!current.hasStreet(street)) {
            return UNKNOWN;
        }
        if (!current.leadsFrom(street, stand)) {
            return NOT;
        }
        ways.layAsItIs(current);
        if (!ways.canBeginAt(current, street, stand, minute)) {
            return NOT;
        }
        if (minute + current.minutes[street] > LAST_MINUTE) {
            return FULL;
        }
        minute += current.minutes[street];
        stand = current.otherEnd(street, stand);
        return minute;
    }

    public int rest(int n) {
        if (n < 1 || n > LONGEST_REST) {
            return OUTSIDE;
        }
        if (minute + n > LAST_MINUTE) {
            return FULL;
        }
        minute += n;
        return minute;
    }

    public int here(int what) {
        switch (what) {
            case 0:
                return stand;
            case 1:
                return minute;
            case 2:
                return current.halvesBefore(minute) & 1;
            case 3:
                return (current.halvesBefore(minute) + 1) * current.half - minute;
            default:
                return OUTSIDE;
        }
    }

    public int keep(int k) {
        if (k < 0 || k >= MOST_KEPT) {
            return UNKNOWN;
        }
        keptStand[k] = stand;
        keptMinute[k] = minute;
        return minute;
    }

    public int back(int k) {
        if (k < 0 || k >= MOST_KEPT) {
            return UNKNOWN;
        }
        if (keptMinute[k] == NONE) {
            return NOT;
        }
        stand = keptStand[k];
        minute = keptMinute[k];
        return minute;
    }

    // ---- ways

    public int reach(int corner, int half) {
        if (!current.hasCorner(corner)) {
            return UNKNOWN;
        }
        if (!isHalf(half)) {
            return OUTSIDE;
        }
        ways.layAsItIs(current);
        ways.spread(current, corner, half * current.half);
        return ways.thereBy(current, (half + 1) * current.half);
    }

    public int soonest(int a, int b, int t) {
        if (!current.hasCorner(a) || !current.hasCorner(b)) {
            return UNKNOWN;
        }
        if (!isBegin(t)) {
            return OUTSIDE;
        }
        ways.layAsItIs(current);
        return ways.arrival(current, a, b, t);
    }

    public int home(int a, int b) {
        if (!current.hasCorner(a) || !current.hasCorner(b)) {
            return UNKNOWN;
        }
        ways.layAsItIs(current);
        int there = ways.arrival(current, a, b, 0);
        return there == NONE ? NONE : ways.arrival(current, b, a, there);
    }

    public int cut(int corner) {
        if (!current.hasCorner(corner)) {
            return UNKNOWN;
        }
        int screw = 1 << corner;
        if ((current.stuck & screw) != 0) {
            return NOT;
        }
        int pairs = 0;
        for (int from = 0; from < current.corners; from++) {
            int without = cornersReached(from, current.stuck);
            int with = cornersReached(from, current.stuck | screw);
            pairs += Integer.bitCount(without & ~with);
        }
        return pairs;
    }

    // ---- errands

    public int served() {
        ways.layAsItIs(current);
        return ways.servedErrands(current);
    }

    public int law(int what) {
        if (what != 0 && what != 1) {
            return OUTSIDE;
        }
        int best = NONE;
        int most = NONE;
        for (int law = 0; law < LAWS; law++) {
            ways.lay(current, law, current.stuck);
            int many = Integer.bitCount(ways.servedErrands(current));
            if (many > most) {
                best = law;
                most = many;
            }
        }
        return what == 0 ? best : most;
    }

    public int rope(int what) {
        if (what != 0 && what != 1) {
            return OUTSIDE;
        }
        int best = NONE;
        ways.layAsItIs(current);
        int most = current.streets == 0 ? Integer.bitCount(ways.servedErrands(current)) : NONE;
        for (int street = 0; street < current.streets; street++) {
            ways.layAsItIs(current);
            ways.open[street] = ALWAYS_OPEN;
            int many = Integer.bitCount(ways.servedErrands(current));
            if (many > most) {
                best = street;
                most = many;
            }
        }
        return what == 0 ? best : most;
    }

    public int mended(int what) {
        if (what != 0 && what != 1) {
            return OUTSIDE;
        }
        int best = NONE;
        int fewest = MOST_CORNERS + 1;
        // Sets come in rising order: the first of its size is the least.
        for (int set = 0; set <= current.stuck; set++) {
            if ((set & ~current.stuck) != 0 || Integer.bitCount(set) >= fewest) {
                continue;
            }
            ways.lay(current, current.law, current.stuck & ~set);
            if (ways.servesAll(current)) {
                best = set;
                fewest = Integer.bitCount(set);
            }
        }
        if (best == NONE) {
            return NONE;
        }
        return what == 0 ? fewest : best;
    }

    // ---- walks, heights

    public int walk(int corner) {
        if (!current.hasCorner(corner)) {
            return UNKNOWN;
        }
        if (walkedCount >= MOST_WALK) {
            return FULL;
        }
        walked[walkedCount] = corner;
        walkedCount++;
        return walkedCount;
    }

    public int burn() {
        int had = walkedCount;
        walkedCount = 0;
        return had;
    }

    public int judge(int t, int what) {
        if (!isBegin(t) || what < 0 || what > 1) {
            return OUTSIDE;
        }
        if (walkedCount == 0) {
            return NOT;
        }
        ways.layAsItIs(current);
        int then = t;
        for (int i = 1; i < walkedCount; i++) {
            int street = ways.streetAtOnce(current, walked[i - 1], walked[i], then);
            if (street == NONE) {
                return what == 0 ? i : then;
            }
            then += current.minutes[street];
        }
        return what == 0 ? NONE : then;
    }

    public int seen(int a, int b, int half) {
        if (!current.hasCorner(a) || !current.hasCorner(b)) {
            return UNKNOWN;
        }
        if (!isHalf(half) || a == b) {
            return OUTSIDE;
        }
        if (stepCount >= MOST_STEPS) {
            return FULL;
        }
        stepFrom[stepCount] = a;
        stepTo[stepCount] = b;
        stepHalf[stepCount] = half;
        stepCount++;
        return stepCount;
    }

    public int forget() {
        int had = stepCount;
        stepCount = 0;
        return had;
    }

    public int sure(int a, int b, int half) {
        if (!current.hasCorner(a) || !current.hasCorner(b)) {
            return UNKNOWN;
        }
        if (!isHalf(half)) {
            return OUTSIDE;
        }
        if (a == b) {
            return canAllBe(half) ? 1 : 0;
        }
        return higherThan(a, half) >> b & 1;
    }

    public int count(int what) {
        switch (what) {
            case 0:
                return current.corners;
            case 1:
                return current.streets;
            case 2:
                return current.law;
            case 3:
                return current.half;
            case 4:
                return current.errands;
            case 5:
                return walkedCount;
            case 6:
                return stepCount;
            case 7:
                return script.length;
            case 8:
                return current.stuck;
            default:
                return OUTSIDE;
        }
    }

    // ---- what the calls share

    private void startAnew() {
        stand = 0;
        minute = 0;
        walkedCount = 0;
        stepCount = 0;
        for (int k = 0; k < MOST_KEPT; k++) {
            keptMinute[k] = NONE;
        }
    }

    private static boolean isHalf(int half) {
        return half >= 0 && half < HALVES;
    }

    private static boolean isBegin(int t) {
        return t >= 0 && t <= LAST_BEGIN;
    }

    private static boolean isUnder(int streetKind, int kind) {
        if (streetKind < 0 || streetKind >= KIND_OF.length) {
            return false;
        }
        int above = KIND_OF[streetKind];
        for (int level = 0; level < KINDS && above >= 0 && above < KINDS; level++) {
            if (above == kind) {
                return true;
            }
            above = KIND_ABOVE[above];
        }
        return false;
    }

    private int cornersReached(int from, int stuck) {
        ways.lay(current, current.law, stuck);
        ways.spread(current, from, 0);
        return ways.thereBy(current, EVER);
    }

    /** The corners, by bits, to which a chain of steps told for this half leads from one. */
    private int higherThan(int corner, int half) {
        int higher = 0;
        // A chain has no more links than there are steps: as many rounds find its end.
        for (int round = 0; round < stepCount; round++) {
            for (int i = 0; i < stepCount; i++) {
                boolean linked = stepFrom[i] == corner || (higher >> stepFrom[i] & 1) == 1;
                if (stepHalf[i] == half && linked) {
                    higher |= 1 << stepTo[i];
                }
            }
        }
        return higher;
    }

    private boolean canAllBe(int half) {
        for (int corner = 0; corner < current.corners; corner++) {
            if ((higherThan(corner, half) >> corner & 1) == 1) {
                return false;
            }
        }
        return true;
    }

    /** Corners, screws, streets, the half's length, the law and the errands. */
    private static final class Town {
        int corners;
        final int[] byDay;
        final int[] byNight;
        int stuck;
        int streets;
        final int[] first;
        final int[] second;
        final int[] kind;
        final int[] minutes;
        int half;
        int law;
        int errands;
        final int[] errandFrom;
        final int[] errandTo;

        Town() {
            byDay = new int[MOST_CORNERS];
            byNight = new int[MOST_CORNERS];
            first = new int[MOST_STREETS];
            second = new int[MOST_STREETS];
            kind = new int[MOST_STREETS];
            minutes = new int[MOST_STREETS];
            errandFrom = new int[MOST_ERRANDS];
            errandTo = new int[MOST_ERRANDS];
            beginWith(FIRST_CORNERS);
        }

        void beginWith(int many) {
            corners = many;
            stuck = 0;
            streets = 0;
            half = FIRST_HALF;
            law = UP;
            errands = 0;
            for (int i = 0; i < MOST_CORNERS; i++) {
                byDay[i] = 0;
                byNight[i] = 0;
            }
        }

        void copyFrom(Town other) {
            corners = other.corners;
            stuck = other.stuck;
            streets = other.streets;
            half = other.half;
            law = other.law;
            errands = other.errands;
            for (int i = 0; i < MOST_CORNERS; i++) {
                byDay[i] = other.byDay[i];
                byNight[i] = other.byNight[i];
            }
            for (int i = 0; i < MOST_STREETS; i++) {
                first[i] = other.first[i];
                second[i] = other.second[i];
                kind[i] = other.kind[i];
                minutes[i] = other.minutes[i];
            }
            for (int i = 0; i < MOST_ERRANDS; i++) {
                errandFrom[i] = other.errandFrom[i];
                errandTo[i] = other.errandTo[i];
            }
        }

        boolean hasCorner(int corner) {
            return corner >= 0 && corner < corners && corner < MOST_CORNERS;
        }

        boolean hasStreet(int street) {
            return street >= 0 && street < streets && street < MOST_STREETS;
        }

        void setHeights(int corner, int day, int night) {
            if (hasCorner(corner)) {
                byDay[corner] = day;
                byNight[corner] = night;
            }
        }

        void addStreet(int itsKind, int from, int to, int takes) {
            if (streets < MOST_STREETS) {
                kind[streets] = itsKind;
                first[streets] = from;
                second[streets] = to;
                minutes[streets] = takes;
                streets++;
            }
        }

        void addErrand(int from, int to) {
            if (errands < MOST_ERRANDS) {
                errandFrom[errands] = from;
                errandTo[errands] = to;
                errands++;
            }
        }

        int heightOf(int corner, int night, int stuckThen) {
            if (!hasCorner(corner)) {
                return 0;
            }
            boolean turned = night == 1 && (stuckThen >> corner & 1) == 0;
            return turned ? byNight[corner] : byDay[corner];
        }

        int halvesBefore(int t) {
            return half < 1 ? 0 : t / half;
        }

        boolean leadsFrom(int street, int corner) {
            return first[street] == corner || second[street] == corner;
        }

        int otherEnd(int street, int corner) {
            return first[street] == corner ? second[street] : first[street];
        }

        /** 1 one may go from the first corner by day, 2 by night, 4 and 8 likewise from the second. */
        int openings(int street, int lawThen, int stuckThen) {
            int bits = 0;
            for (int night = 0; night < HALVES; night++) {
                int from = heightOf(first[street], night, stuckThen);
                int to = heightOf(second[street], night, stuckThen);
                if (mayBeTaken(kind[street], lawThen, to - from, night)) {
                    bits |= 1 << night;
                }
                if (mayBeTaken(kind[street], lawThen, from - to, night)) {
                    bits |= 4 << night;
                }
            }
            return bits;
        }

        private static boolean mayBeTaken(int streetKind, int lawThen, int rise, int night) {
            switch (streetKind) {
                case PAVED:
                    return rise > 0 || lawThen == EVEN && rise == 0 || lawThen == DOWN && rise >= -DEEPEST_DOWN;
                case STAIR:
                    return rise > 0 && rise <= STEEPEST_STAIR;
                case BRIDGE:
                    return rise > 0 || night == 1;
                default:
                    return streetKind == LEVEL;
            }
        }
    }

    /** Which streets are open when, and how soon one comes by them from a corner to the others. */
    private static final class Ways {
        /** By street: its openings, as they were laid last. */
        final int[] open;
        /** By corner: the minute at which one is there, as it was spread last; NONE: never. */
        private final int[] there;

        Ways() {
            open = new int[MOST_STREETS];
            there = new int[MOST_CORNERS];
        }

        void layAsItIs(Town town) {
            lay(town, town.law, town.stuck);
        }

        void lay(Town town, int law, int stuck) {
            for (int street = 0; street < town.streets; street++) {
                open[street] = town.openings(street, law, stuck);
            }
        }

        void spread(Town town, int from, int t) {
            for (int corner = 0; corner < MOST_CORNERS; corner++) {
                there[corner] = corner == from ? t : NONE;
            }
            int settled = 0;
            for (int round = 0; round < town.corners; round++) {
                int next = earliestBeside(town, settled);
                if (next == NONE) {
                    return;
                }
                settled |= 1 << next;
                goOnFrom(town, next);
            }
        }

        private int earliestBeside(Town town, int settled) {
            int earliest = NONE;
            for (int corner = 0; corner < town.corners; corner++) {
                boolean waits = there[corner] != NONE && (settled >> corner & 1) == 0;
                if (waits && (earliest == NONE || there[corner] < there[earliest])) {
                    earliest = corner;
                }
            }
            return earliest;
        }

        private void goOnFrom(Town town, int corner) {
            for (int street = 0; street < town.streets; street++) {
                int begin = town.leadsFrom(street, corner) ? beginOf(town, street, corner, there[corner]) : NONE;
                if (begin != NONE) {
                    int other = town.otherEnd(street, corner);
                    int end = begin + town.minutes[street];
                    if (there[other] == NONE || end < there[other]) {
                        there[other] = end;
                    }
                }
            }
        }

        /** The first minute, t or behind it, at which a step by the street from one of its corners can begin. */
        private int beginOf(Town town, int street, int from, int t) {
            int halves = town.first[street] == from ? open[street] & 3 : open[street] >> 2;
            int now = town.halvesBefore(t);
            // Behind a day and a night from their begins nothing is new.
            for (int h = now; h <= now + HALVES; h++) {
                int begin = Math.max(t, h * town.half);
                boolean fits = begin + town.minutes[street] <= (h + 1) * town.half;
                if (fits && (halves >> (h & 1) & 1) == 1) {
                    return begin;
                }
            }
            return NONE;
        }

        boolean canBeginAt(Town town, int street, int from, int t) {
            return town.leadsFrom(street, from) && beginOf(town, street, from, t) == t;
        }

        int streetAtOnce(Town town, int from, int to, int t) {
            for (int street = 0; street < town.streets; street++) {
                boolean joins = from != to && town.leadsFrom(street, from) && town.leadsFrom(street, to);
                if (joins && canBeginAt(town, street, from, t)) {
                    return street;
                }
            }
            return NONE;
        }

        int arrival(Town town, int from, int to, int t) {
            spread(town, from, t);
            return town.hasCorner(to) ? there[to] : NONE;
        }

        int thereBy(Town town, int last) {
            int bits = 0;
            for (int corner = 0; corner < town.corners; corner++) {
                if (there[corner] != NONE && there[corner] <= last) {
                    bits |= 1 << corner;
                }
            }
            return bits;
        }

        int servedErrands(Town town) {
            int bits = 0;
            for (int errand = 0; errand < town.errands; errand++) {
                if (serves(town, errand)) {
                    bits |= 1 << errand;
                }
            }
            return bits;
        }

        boolean servesAll(Town town) {
            for (int errand = 0; errand < town.errands; errand++) {
                if (!serves(town, errand)) {
                    return false;
                }
            }
            return true;
        }

        private boolean serves(Town town, int errand) {
            spread(town, town.errandFrom[errand], 0);
            int inTime = thereBy(town, HALVES * town.half);
            return (inTime >> town.errandTo[errand] & 1) == 1;
        }
    }

    /** The text, and how it is read: token by token, to the first that cannot stand there. */
    private static final class Script {
        private static final int END = 0, WORD = 1, NUMBER = 2, OTHER = 3;

        private final int[] row;
        int length;
        /** How many lines were read last. */
        int lines;
        private int tokenPlace;
        private int tokenBehind;
        private int tokenSort;
        private int number;

        Script() {
            row = new int[MOST_BYTES];
        }

        void append(int oneByte) {
            if (length < MOST_BYTES) {
                row[length] = oneByte;
                length++;
            }
        }

        /** Does the lines on a town; answers where the first fault is, or NONE. */
        int firstFault(Town town) {
            tokenBehind = 0;
            lines = 0;
            for (int line = 1; line <= MOST_LINES; line++) {
                advance();
                if (!takeLine(town)) {
                    return tokenPlace;
                }
                lines = line;
                advance();
                if (tokenSort == END) {
                    return NONE;
                }
                if (row[tokenPlace] != ';') {
                    return tokenPlace;
                }
            }
            return tokenPlace;
        }

        private void advance() {
            int at = tokenBehind;
            while (at < length && row[at] == ' ') {
                at++;
            }
            tokenPlace = at;
            tokenSort = sortAt(at);
            at++;
            boolean isRow = tokenSort == WORD || tokenSort == NUMBER;
            while (isRow && at < length && sortAt(at) == tokenSort) {
                at++;
            }
            tokenBehind = Math.min(at, length);
        }

        private int sortAt(int at) {
            if (at < 0 || at >= length || at >= MOST_BYTES) {
                return END;
            }
            if (row[at] >= 'a' && row[at] <= 'z') {
                return WORD;
            }
            return row[at] >= '0' && row[at] <= '9' ? NUMBER : OTHER;
        }

        private boolean isWord(String word) {
            if (tokenSort != WORD || tokenBehind - tokenPlace != word.length()) {
                return false;
            }
            for (int i = 0; i < word.length(); i++) {
                if (row[tokenPlace + i] != word.charAt(i)) {
                    return false;
                }
            }
            return true;
        }

        private boolean takeLine(Town town) {
            int streetKind = streetKindTold();
            if (streetKind != NONE) {
                return town.streets < MOST_STREETS && takeStreet(town, streetKind);
            }
            int law = lawTold();
            if (law != NONE) {
                town.law = law;
                return true;
            }
            if (isWord("errand")) {
                return town.errands < MOST_ERRANDS && takeErrand(town);
            }
            if (isWord("idle")) {
                town.errands = 0;
                return true;
            }
            if (isWord("stuck") || isWord("free")) {
                return takeScrew(town, isWord("stuck"));
            }
            if (isWord("corner")) {
                return takeHeights(town);
            }
            return isWord("town") ? takeTown(town) : isWord("half") && takeHalf(town);
        }

        private int streetKindTold() {
            if (isWord("paved")) {
                return PAVED;
            }
            if (isWord("level")) {
                return LEVEL;
            }
            if (isWord("stair")) {
                return STAIR;
            }
            return isWord("bridge") ? BRIDGE : NONE;
        }

        private int lawTold() {
            if (isWord("up")) {
                return UP;
            }
            if (isWord("even")) {
                return EVEN;
            }
            return isWord("down") ? DOWN : NONE;
        }

        private boolean takeStreet(Town town, int streetKind) {
            if (!takeNumber(0, town.corners - 1)) {
                return false;
            }
            int from = number;
            if (!takeNumber(0, town.corners - 1) || number == from) {
                return false;
            }
            int to = number;
            if (!takeNumber(1, 99)) {
                return false;
            }
            town.addStreet(streetKind, from, to, number);
            return true;
        }

        private boolean takeErrand(Town town) {
            if (!takeNumber(0, town.corners - 1)) {
                return false;
            }
            int from = number;
            if (!takeNumber(0, town.corners - 1) || number == from) {
                return false;
            }
            town.addErrand(from, number);
            return true;
        }

        private boolean takeScrew(Town town, boolean sticks) {
            if (!takeNumber(0, town.corners - 1)) {
                return false;
            }
            int screw = 1 << number;
            town.stuck = sticks ? town.stuck | screw : town.stuck & ~screw;
            return true;
        }

        private boolean takeHeights(Town town) {
            if (!takeNumber(0, town.corners - 1)) {
                return false;
            }
            int corner = number;
            if (!takeNumber(0, 99)) {
                return false;
            }
            int day = number;
            if (!takeNumber(0, 99)) {
                return false;
            }
            town.setHeights(corner, day, number);
            return true;
        }

        private boolean takeTown(Town town) {
            if (!takeNumber(2, MOST_CORNERS)) {
                return false;
            }
            town.beginWith(number);
            return true;
        }

        private boolean takeHalf(Town town) {
            if (!takeNumber(10, 999)) {
                return false;
            }
            town.half = number;
            return true;
        }

        private boolean takeNumber(int least, int most) {
            advance();
            if (tokenSort != NUMBER || tokenBehind - tokenPlace > MOST_DIGITS) {
                return false;
            }
            number = 0;
            for (int at = tokenPlace; at < tokenBehind; at++) {
                number = number * 10 + row[at] - '0';
            }
            return number >= least && number <= most;
        }
    }
}
