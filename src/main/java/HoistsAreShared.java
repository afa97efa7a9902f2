/**
 * A hoist that is shared with the floor below: one rope over a wheel, two sides that go up and down by
 * what hangs on each. The document (shared/DOC.md) numbers its promises; words in capitals here are its.
 */
public final class HoistsAreShared {
    private static final int NOBODY = -1;
    private static final int OTHER = -2;
    private static final int STATE = -3;
    private static final int BELOW = -4;
    private static final int ROOM = -6;
    private static final int NONE = -9;
    private static final int FITS = 0;

    private static final int PULL_REFUSED = 1000000000;
    private static final long LONG_REFUSED = 4000000000000000000L;

    private static final int FAR = 60;
    private static final int NEAR = 30;
    private static final int STILL_FOR = 10;
    private static final int ROW_ROOM = 16;
    private static final int ROW_GREATEST = 99;
    private static final int REASONS = 6;
    private static final int FIRST_REASON = 10;

    private static final int DRAUGHT_FAR = 7;
    private static final int DRAUGHT_PULL = 8;
    private static final int ODDS_LEAST = 2;
    private static final int ODDS_GREATEST = 20;

    private static final int SEASONS = 20;
    private static final int SEASON_DAYS = 12;
    private static final int WITHOUT_SIGN = 0x7fffffff;
    // Euclid's steps on numbers below 2 to the 63rd stay under a hundred.
    private static final int DIVISOR_STEPS = 200;

    private final Hoist now;
    private final Hoist mind;
    private final Hoist kept;
    private final Telling telling;
    private final int[] path;
    private final int[] pulls;
    private final int[] shifts;
    private final int[] outcomes;
    private final long[] odds;
    private final long[] nextOdds;
    private final int[] numbers;
    private final int[] refusals;
    private int rowLength;
    private boolean imaged;

    public HoistsAreShared() {
        now = new Hoist();
        mind = new Hoist();
        kept = new Hoist();
        telling = new Telling();
        path = new int[FAR + STILL_FOR + 1];
        pulls = new int[NEAR + 1];
        shifts = new int[Hoist.THINGS];
        outcomes = new int[4];
        odds = new long[Hoist.TOP + 1];
        nextOdds = new long[Hoist.TOP + 1];
        numbers = new int[ROW_ROOM];
        refusals = new int[REASONS + 1];
        rowLength = 0;
        imaged = false;
    }

    // ---- What is told, and what is there now

    public int letter(int c) {
        if (c < 0) {
            return refuse(BELOW);
        }
        if (c > Telling.GREATEST || telling.isFull()) {
            return refuse(ROOM);
        }
        telling.add(c);
        return telling.told;
    }

    public int hoist() {
        // Told in mind first: with a FAULT nothing of it may come.
        mind.copy(now);
        int answer = telling.tell(mind);
        telling.forget();
        if (answer > 0) {
            now.copy(mind);
        }
        return answer;
    }

    public int thing(int thing, int what) {
        if (!now.has(thing)) {
            return refuse(NOBODY);
        }
        switch (what) {
            case 0:
                return now.kindOf(thing);
            case 1:
                return now.figureOf(thing);
            case 2:
                return now.placeOf(thing);
            case 3:
                return now.sinceOf(thing);
            case 4:
                return now.weighs(thing, 0);
            default:
                return refuse(OTHER);
        }
    }

    public int side(int side, int what) {
        if (!Hoist.isSide(side)) {
            return refuse(NOBODY);
        }
        switch (what) {
            case 0:
                return Hoist.heightOf(side, now.floor);
            case 1:
                return now.ballastOf(side);
            case 2:
                return now.weightOf(side);
            case 3:
                return now.bitsAt(side);
            case 4:
                return now.nearestDoor(side);
            case 5:
                return howFar(side);
            default:
                return refuse(OTHER);
        }
    }

    public int hangs(int thing, int where) {
        if (!now.has(thing)) {
            return refuse(NOBODY);
        }
        if (!Hoist.isPlace(where)) {
            return refuse(OTHER);
        }
        int was = now.placeOf(thing);
        now.put(thing, where);
        return was;
    }

    public int loads(int side, int v) {
        if (!Hoist.isSide(side)) {
            return refuse(NOBODY);
        }
        int fault = faultOf(v, 0, Hoist.BALLAST);
        if (fault != FITS) {
            return refuse(fault);
        }
        int was = now.ballastOf(side);
        now.load(side, v);
        return was;
    }

    public int lifts(int floor) {
        if (!Hoist.isFloor(floor)) {
            return refuse(NOBODY);
        }
        int was = now.floor;
        now.lift(floor);
        return was;
    }

    public int doors(int floor) {
        if (!Hoist.isFloor(floor)) {
            return refuse(NOBODY);
        }
        now.switchDoor(floor);
        return now.isDoor(floor) ? 1 : 0;
    }

    public int turn(int thing, int kind, int figure) {
        if (!now.has(thing)) {
            return refuse(NOBODY);
        }
        if (!Hoist.isKind(kind)) {
            return refuse(OTHER);
        }
        int fault = faultOf(figure, 0, Hoist.FIGURE);
        if (fault != FITS) {
            return refuse(fault);
        }
        int was = 10 * now.kindOf(thing) + now.figureOf(thing);
        now.become(thing, kind, figure);
        return was;
    }

    public int days(int n) {
        int fault = faultOf(n, 1, Hoist.DAYS_AT_ONCE);
        if (fault != FITS) {
            return refuse(fault);
        }
        if (!now.hasDays(n)) {
            return refuse(ROOM);
        }
        now.pass(n);
        return now.floor;
    }

    // ---- DAYS to come

    public int floorThen(int side, int n) {
        if (!Hoist.isSide(side)) {
            return refuse(NOBODY);
        }
        int fault = faultOf(n, 0, FAR);
        if (fault != FITS) {
            return refuse(fault);
        }
        return Hoist.heightOf(side, now.floorAfter(n));
    }

    public int weighsThen(int thing, int n) {
        if (!now.has(thing)) {
            return refuse(NOBODY);
        }
        int fault = faultOf(n, 0, FAR);
        if (fault != FITS) {
            return refuse(fault);
        }
        return now.weighs(thing, n);
    }

    public int pull(int n) {
        int fault = faultOf(n, 0, FAR);
        if (fault != FITS) {
            return PULL_REFUSED - refuse(fault);
        }
        return now.pullAfter(n);
    }

    public int meets() {
        return firstAt(0, Hoist.MIDDLE);
    }

    public int comes(int side, int floor) {
        if (!Hoist.isSide(side) || !Hoist.isFloor(floor)) {
            return refuse(NOBODY);
        }
        return firstAt(side, floor);
    }

    public int strikes(int what) {
        switch (what) {
            case 0:
                return firstStrike();
            case 1:
                return firstStill();
            default:
                return refuse(OTHER);
        }
    }

    public int door(int side) {
        if (!Hoist.isSide(side)) {
            return refuse(NOBODY);
        }
        now.foresee(path, FAR);
        for (int n = 0; n <= FAR && n < path.length; n++) {
            if (now.isDoor(Hoist.heightOf(side, path[n]))) {
                return n;
            }
        }
        return NONE;
    }

    public int level(int n) {
        int fault = faultOf(n, 0, FAR);
        if (fault != FITS) {
            return refuse(fault);
        }
        now.foresee(path, n);
        int often = 0;
        for (int i = 0; i <= n && i < path.length; i++) {
            if (path[i] == Hoist.MIDDLE) {
                often++;
            }
        }
        return often;
    }

    // ---- What to do so that they are level

    public int take(int n) {
        int fault = faultOf(n, 0, NEAR);
        if (fault != FITS) {
            return refuse(fault);
        }
        int nearest = now.apartAfter(n);
        int best = NONE;
        for (int i = 0; i < now.things; i++) {
            if (now.placeOf(i) != Hoist.OFF) {
                int apart = apartIfPut(i, Hoist.OFF, n);
                if (apart < nearest) {
                    nearest = apart;
                    best = i;
                }
            }
        }
        return best;
    }

    public int hang(int n) {
        int fault = faultOf(n, 0, NEAR);
        if (fault != FITS) {
            return refuse(fault);
        }
        int nearest = now.apartAfter(n);
        int best = NONE;
        for (int i = 0; i < now.things; i++) {
            if (now.placeOf(i) == Hoist.OFF) {
                for (int side = 0; side < Hoist.SIDES; side++) {
                    int apart = apartIfPut(i, side, n);
                    if (apart < nearest) {
                        nearest = apart;
                        best = 10 * i + side;
                    }
                }
            }
        }
        return best;
    }

    public int change() {
        reckonShifts();
        int pull = now.pullAfter(0);
        int off = now.bitsAt(Hoist.OFF);
        int best = NONE;
        int fewest = Hoist.THINGS + 1;
        for (int bits = 0; bits < 1 << now.things; bits++) {
            if ((bits & off) == 0 && Integer.bitCount(bits) < fewest
                    && Hoist.speedBy(pull + shiftOf(bits)) == 0) {
                fewest = Integer.bitCount(bits);
                best = bits;
            }
        }
        return best;
    }

    public int ballast(int side, int n, int what) {
        if (!Hoist.isSide(side)) {
            return refuse(NOBODY);
        }
        int fault = faultOf(n, 0, NEAR);
        if (fault != FITS) {
            return refuse(fault);
        }
        if (what != 0 && what != 1) {
            return refuse(OTHER);
        }
        reckonPulls(n);
        int nearest = Hoist.TOP + 1;
        int best = NONE;
        for (int v = 0; v <= Hoist.BALLAST; v++) {
            int more = v - now.ballastOf(side);
            int apart = apartIfPulled(side == 0 ? more : -more, n);
            if (apart < nearest) {
                nearest = apart;
                best = v;
            }
        }
        return what == 0 ? best : nearest;
    }

    public int mustWeigh(int thing, int side, int n) {
        if (!now.has(thing) || !Hoist.isSide(side)) {
            return refuse(NOBODY);
        }
        int fault = faultOf(n, 0, NEAR);
        if (fault != FITS) {
            return refuse(fault);
        }
        mind.copy(now);
        for (int figure = 0; figure <= Hoist.FIGURE; figure++) {
            mind.become(thing, now.kindOf(thing), figure);
            if (mind.isDoor(Hoist.heightOf(side, mind.floorAfter(n)))) {
                return figure;
            }
        }
        return NONE;
    }

    public int bestKind(int thing, int n, int what) {
        if (!now.has(thing)) {
            return refuse(NOBODY);
        }
        int fault = faultOf(n, 0, NEAR);
        if (fault != FITS) {
            return refuse(fault);
        }
        if (what != 0 && what != 1) {
            return refuse(OTHER);
        }
        int nearest = Hoist.TOP + 1;
        int best = NONE;
        mind.copy(now);
        for (int kind = 0; kind < Hoist.KINDS; kind++) {
            mind.become(thing, kind, now.figureOf(thing));
            int apart = mind.apartAfter(n);
            if (apart < nearest) {
                nearest = apart;
                best = kind;
            }
        }
        return what == 0 ? best : nearest;
    }

    public int heaviest(int what) {
        switch (what) {
            case 0:
                return outweighing(1);
            case 1:
                return outweighing(-1);
            case 2:
                return now.openAt(now.floor);
            case 3:
                return gaining(1);
            case 4:
                return gaining(-1);
            default:
                return refuse(OTHER);
        }
    }

    public int two(int a, int b, int n) {
        if (!now.has(a) || !now.has(b) || a == b) {
            return refuse(NOBODY);
        }
        int fault = faultOf(n, 0, NEAR);
        if (fault != FITS) {
            return refuse(fault);
        }
        if (now.placeOf(a) == Hoist.OFF || now.placeOf(b) == Hoist.OFF) {
            return refuse(STATE);
        }
        reckonOutcomes(a, b, n);
        for (int pair = 0; pair < outcomes.length; pair++) {
            if (isSettled(pair, 2, now.placeOf(a)) && isSettled(pair, 1, now.placeOf(b))) {
                return 10 * (pair >> 1) + (pair & 1);
            }
        }
        return NONE;
    }

    // ---- Fractions

    public long draught(int n, int t, int v, int part) {
        if (n < 0 || v < 0 || t < ODDS_LEAST) {
            return LONG_REFUSED - refuse(BELOW);
        }
        if (n > DRAUGHT_FAR || t > ODDS_GREATEST || v > Hoist.TOP) {
            return LONG_REFUSED - refuse(ROOM);
        }
        if (part != 0 && part != 1) {
            return LONG_REFUSED - refuse(OTHER);
        }
        long all = reckonOdds(n, t);
        long high = 0;
        for (int floor = v; floor < odds.length; floor++) {
            high += odds[floor];
        }
        return partOf(high, all, part);
    }

    public long mean(int part) {
        if (part != 0 && part != 1) {
            return LONG_REFUSED - refuse(OTHER);
        }
        return partOf(now.weighsAll(), now.things, part);
    }

    // ---- The ROW

    public int whatIs(int thing, int what) {
        if (!now.has(thing)) {
            return refuse(NOBODY);
        }
        switch (what) {
            case 0:
                return kindsByRow(thing);
            case 1:
                return figuresByRow(thing);
            default:
                return refuse(OTHER);
        }
    }

    public int row(int v) {
        int fault = faultOf(v, 0, ROW_GREATEST);
        if (fault != FITS) {
            return refuse(fault);
        }
        if (rowLength >= numbers.length) {
            return refuse(ROOM);
        }
        numbers[rowLength] = v;
        rowLength++;
        return rowLength;
    }

    public int judge() {
        int judged = NONE;
        for (int i = 0; i < rowLength && i < numbers.length && judged == NONE; i++) {
            if (!now.has(i) || now.weighs(i, 0) != numbers[i]) {
                judged = i;
            }
        }
        rowLength = 0;
        return judged;
    }

    public int clear() {
        int had = rowLength;
        rowLength = 0;
        return had;
    }

    // ---- LOTS, THE IMAGE, counts

    public int lots(int n, int z, int what) {
        int fault = faultOf(n, 1, SEASONS);
        if (fault != FITS) {
            return refuse(fault);
        }
        if (what != 0 && what != 1) {
            return refuse(OTHER);
        }
        int level = 0;
        int open = 0;
        int seed = z;
        for (int season = 0; season < n; season++) {
            mind.copy(now);
            for (int i = 0; i < mind.things; i++) {
                seed = nextSeed(seed);
                mind.put(i, drawPlace(seed));
            }
            int floor = mind.floorAfter(SEASON_DAYS);
            level += floor == Hoist.MIDDLE ? 1 : 0;
            open += Integer.bitCount(mind.openAt(floor));
        }
        return what == 0 ? level : open;
    }

    public int image() {
        kept.copy(now);
        imaged = true;
        return now.day;
    }

    public int on() {
        if (!imaged) {
            return refuse(STATE);
        }
        now.copy(kept);
        return now.day;
    }

    public int count(int what) {
        switch (what) {
            case 0:
                return now.things;
            case 1:
                return now.day;
            case 2:
                return now.floor;
            case 3:
                return now.doorBits;
            case 4:
                return now.bitsAt(Hoist.OFF);
            case 5:
                return now.weighsAll();
            case 6:
                return rowLength;
            case 7:
                return telling.told;
            default:
                return refusalsOf(what - FIRST_REASON);
        }
    }

    // ---- REFUSALS

    private int refuse(int why) {
        int reason = -why;
        if (reason >= 1 && reason < refusals.length) {
            refusals[reason]++;
        }
        return why;
    }

    private int refusalsOf(int reason) {
        return reason >= 1 && reason < refusals.length ? refusals[reason] : NONE;
    }

    private static int faultOf(int n, int least, int greatest) {
        if (n < least) {
            return BELOW;
        }
        return n > greatest ? ROOM : FITS;
    }

    // ---- Helpers of the questions

    private int howFar(int side) {
        int door = now.nearestDoor(side);
        return door == NONE ? NONE : Math.abs(door - Hoist.heightOf(side, now.floor));
    }

    private int firstAt(int side, int floor) {
        now.foresee(path, FAR);
        for (int n = 0; n <= FAR && n < path.length; n++) {
            if (Hoist.heightOf(side, path[n]) == floor) {
                return n;
            }
        }
        return NONE;
    }

    private int firstStrike() {
        now.foresee(path, FAR);
        for (int n = 0; n <= FAR && n < path.length; n++) {
            if (path[n] == 0 || path[n] == Hoist.TOP) {
                return n;
            }
        }
        return NONE;
    }

    private int firstStill() {
        now.foresee(path, FAR + STILL_FOR);
        int since = 0;
        for (int n = 1; n <= FAR + STILL_FOR && n < path.length; n++) {
            if (path[n] != path[n - 1]) {
                since = n;
            }
            if (n - since >= STILL_FOR) {
                return since;
            }
        }
        return NONE;
    }

    private int apartIfPut(int thing, int place, int n) {
        mind.copy(now);
        mind.put(thing, place);
        return mind.apartAfter(n);
    }

    /** By how much PULL is more if a THING is hung on the other side. */
    private void reckonShifts() {
        mind.copy(now);
        for (int i = 0; i < now.things && i < shifts.length; i++) {
            int place = now.placeOf(i);
            // Hung anew it is there SINCE now, and may weigh another than where it leaves.
            mind.put(i, place);
            int moved = now.weighs(i, 0) + mind.weighs(i, 0);
            shifts[i] = place == 0 ? -moved : moved;
        }
    }

    private int shiftOf(int bits) {
        int shift = 0;
        for (int i = 0; i < now.things && i < shifts.length; i++) {
            if ((bits >> i & 1) == 1) {
                shift += shifts[i];
            }
        }
        return shift;
    }

    private void reckonPulls(int n) {
        for (int i = 0; i <= n && i < pulls.length; i++) {
            pulls[i] = now.pullAfter(i);
        }
    }

    private int apartIfPulled(int more, int n) {
        int floor = now.floor;
        for (int i = 1; i <= n && i < pulls.length; i++) {
            floor = Hoist.moved(floor, pulls[i] + more);
        }
        return Hoist.apartAt(floor);
    }

    /** The THING whose weight, times the sign, is greatest. */
    private int outweighing(int sign) {
        int best = NONE;
        int most = 0;
        for (int i = 0; i < now.things; i++) {
            int weight = sign * now.weighs(i, 0);
            if (best == NONE || weight > most) {
                most = weight;
                best = i;
            }
        }
        return best;
    }

    private int gaining(int sign) {
        int bits = 0;
        for (int i = 0; i < now.things; i++) {
            if (sign * (now.weighs(i, 1) - now.weighs(i, 0)) > 0) {
                bits |= 1 << i;
            }
        }
        return bits;
    }

    /** The FLOOR of the one side by pairs: bit 2 the first one is held, bit 1 the other one. */
    private void reckonOutcomes(int a, int b, int n) {
        for (int pair = 0; pair < outcomes.length; pair++) {
            mind.copy(now);
            if ((pair & 2) == 0) {
                mind.put(a, Hoist.OFF);
            }
            if ((pair & 1) == 0) {
                mind.put(b, Hoist.OFF);
            }
            outcomes[pair] = mind.floorAfter(n);
        }
    }

    private boolean isSettled(int pair, int hold, int side) {
        return gain(pair, hold, side) >= gain(pair ^ hold, hold, side);
    }

    private int gain(int pair, int hold, int side) {
        if (pair < 0 || pair >= outcomes.length) {
            return 0;
        }
        return Hoist.heightOf(side, outcomes[pair]) + ((pair & hold) != 0 ? 1 : 0);
    }

    /** Leaves in odds how many of all cases (the answer) end at each FLOOR. */
    private long reckonOdds(int n, int t) {
        for (int floor = 0; floor < odds.length; floor++) {
            odds[floor] = floor == now.floor ? 1 : 0;
        }
        long all = 1;
        for (int i = 1; i <= n; i++) {
            spreadOdds(now.pullAfter(i), t);
            all *= t;
        }
        return all;
    }

    private void spreadOdds(int pull, int t) {
        for (int floor = 0; floor < nextOdds.length; floor++) {
            nextOdds[floor] = 0;
        }
        for (int floor = 0; floor < odds.length; floor++) {
            addOdds(Hoist.moved(floor, pull), odds[floor] * (t - 1));
            addOdds(Hoist.moved(floor, pull - DRAUGHT_PULL), odds[floor]);
        }
        for (int floor = 0; floor < odds.length && floor < nextOdds.length; floor++) {
            odds[floor] = nextOdds[floor];
        }
    }

    private void addOdds(int floor, long more) {
        if (floor >= 0 && floor < nextOdds.length) {
            nextOdds[floor] += more;
        }
    }

    private static long partOf(long above, long below, int part) {
        if (above == 0) {
            return part;
        }
        long divisor = greatestDivisor(above, below);
        if (divisor == 0) {
            return part;
        }
        return (part == 0 ? above : below) / divisor;
    }

    private static long greatestDivisor(long a, long b) {
        long great = a;
        long small = b;
        for (int i = 0; i < DIVISOR_STEPS && small != 0; i++) {
            long rest = great % small;
            great = small;
            small = rest;
        }
        return great;
    }

    private int kindsByRow(int thing) {
        int bits = 0;
        mind.copy(now);
        for (int kind = 0; kind < Hoist.KINDS; kind++) {
            mind.become(thing, kind, now.figureOf(thing));
            if (isAsRowTells()) {
                bits |= 1 << kind;
            }
        }
        return bits;
    }

    private int figuresByRow(int thing) {
        int bits = 0;
        mind.copy(now);
        for (int figure = 0; figure <= Hoist.FIGURE; figure++) {
            mind.become(thing, now.kindOf(thing), figure);
            if (isAsRowTells()) {
                bits |= 1 << figure;
            }
        }
        return bits;
    }

    private boolean isAsRowTells() {
        mind.foresee(path, rowLength - 1);
        for (int i = 0; i < rowLength && i < numbers.length && i < path.length; i++) {
            if (numbers[i] != path[i]) {
                return false;
            }
        }
        return true;
    }

    private static int nextSeed(int z) {
        return z * 1664525 + 1013904223;
    }

    private static int drawPlace(int z) {
        return (z & WITHOUT_SIGN) / 256 % Hoist.PLACES;
    }

    /** All that THE IMAGE holds: the sides, the DOORS, the THINGS, the DAY. */
    private static final class Hoist {
        static final int TOP = 20;
        static final int MIDDLE = 10;
        static final int SIDES = 2;
        static final int OFF = 2;
        static final int PLACES = 3;
        static final int THINGS = 8;
        static final int KINDS = 6;
        static final int FIGURE = 9;
        static final int BALLAST = 50;
        static final int DAYS_AT_ONCE = 60;

        private static final int FIRST_BALLAST = 10;
        private static final int FIRST_DOORS = 1 | 1 << 5 | 1 << 15 | 1 << 20;
        private static final int LAST_DAY = 999;
        private static final int PULL_A_FLOOR = 4;
        private static final int FASTEST = 3;
        private static final int THOUGHT_MORE = 20;
        private static final int WISH_WHOLE = 30;

        int floor;
        int doorBits;
        int day;
        int things;
        private final int[] ballasts;
        private final int[] kinds;
        private final int[] figures;
        private final int[] places;
        private final int[] sinces;

        Hoist() {
            floor = MIDDLE;
            doorBits = FIRST_DOORS;
            day = 0;
            things = 0;
            ballasts = new int[SIDES];
            ballasts[0] = FIRST_BALLAST;
            ballasts[1] = FIRST_BALLAST;
            kinds = new int[THINGS];
            figures = new int[THINGS];
            places = new int[THINGS];
            sinces = new int[THINGS];
        }

        void copy(Hoist from) {
            floor = from.floor;
            doorBits = from.doorBits;
            day = from.day;
            things = from.things;
            for (int i = 0; i < SIDES; i++) {
                ballasts[i] = from.ballasts[i];
            }
            for (int i = 0; i < THINGS; i++) {
                kinds[i] = from.kinds[i];
                figures[i] = from.figures[i];
                places[i] = from.places[i];
                sinces[i] = from.sinces[i];
            }
        }

        static boolean isSide(int side) {
            return side >= 0 && side < SIDES;
        }

        static boolean isFloor(int floor) {
            return floor >= 0 && floor <= TOP;
        }

        static boolean isPlace(int place) {
            return place >= 0 && place < PLACES;
        }

        static boolean isKind(int kind) {
            return kind >= 0 && kind < KINDS;
        }

        boolean has(int thing) {
            return thing >= 0 && thing < things && thing < THINGS;
        }

        int kindOf(int thing) {
            return has(thing) ? kinds[thing] : 0;
        }

        int figureOf(int thing) {
            return has(thing) ? figures[thing] : 0;
        }

        int placeOf(int thing) {
            return has(thing) ? places[thing] : OFF;
        }

        int sinceOf(int thing) {
            return has(thing) ? sinces[thing] : 0;
        }

        int ballastOf(int side) {
            return isSide(side) ? ballasts[side] : 0;
        }

        // ---- What changes it

        boolean add(int kind, int figure, int place) {
            if (things >= THINGS || !isPlace(place)) {
                return false;
            }
            things++;
            become(things - 1, kind, figure);
            return put(things - 1, place);
        }

        boolean put(int thing, int place) {
            if (!has(thing) || !isPlace(place)) {
                return false;
            }
            places[thing] = place;
            sinces[thing] = day;
            return true;
        }

        void become(int thing, int kind, int figure) {
            if (has(thing)) {
                kinds[thing] = kind;
                figures[thing] = figure;
            }
        }

        boolean load(int side, int v) {
            if (!isSide(side) || v < 0 || v > BALLAST) {
                return false;
            }
            ballasts[side] = v;
            return true;
        }

        boolean lift(int to) {
            if (!isFloor(to)) {
                return false;
            }
            floor = to;
            return true;
        }

        boolean switchDoor(int at) {
            if (!isFloor(at)) {
                return false;
            }
            doorBits ^= 1 << at;
            return true;
        }

        boolean hasDays(int n) {
            return n >= 1 && n <= DAYS_AT_ONCE && day + n <= LAST_DAY;
        }

        boolean pass(int n) {
            if (!hasDays(n)) {
                return false;
            }
            for (int i = 0; i < n; i++) {
                day++;
                floor = moved(floor, pullAfter(0));
            }
            return true;
        }

        // ---- What it weighs

        int weighs(int thing, int ahead) {
            if (!has(thing)) {
                return 0;
            }
            int then = day + ahead;
            int hat = figures[thing] + 1;
            int thought = hat + Math.min((then - sinces[thing]) / 2, THOUGHT_MORE);
            switch (kinds[thing]) {
                case 1:
                    return 2 * hat;
                case 2:
                    return thought;
                case 3:
                    return then % 10 < 5 ? hat : 3 * hat;
                case 4:
                    return 2 * hat + 3;
                case 5:
                    return Math.max(WISH_WHOLE - thought, 0);
                default:
                    return hat;
            }
        }

        int weighsAll() {
            int all = 0;
            for (int i = 0; i < things; i++) {
                all += weighs(i, 0);
            }
            return all;
        }

        int weightOf(int side) {
            int weight = ballastOf(side);
            for (int i = 0; i < things; i++) {
                if (placeOf(i) == side) {
                    weight += weighs(i, 0);
                }
            }
            return weight;
        }

        int bitsAt(int place) {
            int bits = 0;
            for (int i = 0; i < things; i++) {
                if (placeOf(i) == place) {
                    bits |= 1 << i;
                }
            }
            return bits;
        }

        // ---- How it goes

        int pullAfter(int n) {
            int pull = ballasts[0] - ballasts[1];
            for (int i = 0; i < things && i < THINGS; i++) {
                if (places[i] == 0) {
                    pull += weighs(i, n);
                } else if (places[i] == 1) {
                    pull -= weighs(i, n);
                }
            }
            return pull;
        }

        static int speedBy(int pull) {
            return Math.min(Math.abs(pull) / PULL_A_FLOOR, FASTEST);
        }

        static int moved(int from, int pull) {
            int to = pull > 0 ? from - speedBy(pull) : from + speedBy(pull);
            return Math.max(0, Math.min(TOP, to));
        }

        int floorAfter(int n) {
            int at = floor;
            for (int i = 1; i <= n; i++) {
                at = moved(at, pullAfter(i));
            }
            return at;
        }

        /** Puts the FLOORS of the one side behind 0 .. n DAYS into the row. */
        void foresee(int[] floors, int n) {
            int at = floor;
            for (int i = 0; i <= n && i < floors.length; i++) {
                if (i > 0) {
                    at = moved(at, pullAfter(i));
                }
                floors[i] = at;
            }
        }

        static int heightOf(int side, int floor) {
            return side == 0 ? floor : TOP - floor;
        }

        static int apartAt(int floor) {
            return Math.abs(TOP - 2 * floor);
        }

        int apartAfter(int n) {
            return apartAt(floorAfter(n));
        }

        // ---- DOORS

        boolean isDoor(int at) {
            return isFloor(at) && (doorBits >> at & 1) == 1;
        }

        int openAt(int at) {
            int bits = 0;
            for (int side = 0; side < SIDES; side++) {
                if (isDoor(heightOf(side, at))) {
                    bits |= 1 << side;
                }
            }
            return bits;
        }

        int nearestDoor(int side) {
            int height = heightOf(side, floor);
            int best = NONE;
            int nearest = TOP + 1;
            for (int at = 0; at <= TOP; at++) {
                if (isDoor(at) && Math.abs(at - height) < nearest) {
                    nearest = Math.abs(at - height);
                    best = at;
                }
            }
            return best;
        }
    }

    /** The letters of a HOIST that is told, and how they are read. */
    private static final class Telling {
        static final int GREATEST = 255;

        private static final int LETTERS = 96;
        private static final int BROKEN = -1000;
        private static final int WRONG = -2000;
        private static final String STATEMENTS = "thbfdn";
        private static final String KIND_LETTERS = "hltsbw";

        int told;
        private final int[] letters;

        Telling() {
            told = 0;
            letters = new int[LETTERS];
        }

        boolean isFull() {
            return told >= letters.length;
        }

        void add(int c) {
            if (!isFull()) {
                letters[told] = c;
                told++;
            }
        }

        void forget() {
            told = 0;
        }

        /** Tells all of it to the hoist: how many STATEMENTS, or the FAULT. */
        int tell(Hoist hoist) {
            int broken = brokenAt();
            if (broken >= 0) {
                return BROKEN - broken;
            }
            int statements = 0;
            int start = 0;
            for (int at = 0; at < told; at++) {
                if (letterAt(at) == ';') {
                    if (!tellStatement(hoist, start)) {
                        return WRONG - start;
                    }
                    statements++;
                    start = at + 1;
                }
            }
            return statements;
        }

        /** The place of the first letter with which no HOIST can go on, the end if something lacks; else -1. */
        private int brokenAt() {
            int start = 0;
            for (int at = 0; at < told; at++) {
                if (!goesOn(start, at)) {
                    return at;
                }
                if (letterAt(at) == ';') {
                    start = at + 1;
                }
            }
            return told == 0 || start < told ? told : -1;
        }

        private boolean goesOn(int start, int at) {
            int first = letterAt(start);
            int c = letterAt(at);
            if (at == start) {
                return STATEMENTS.indexOf((char) c) >= 0;
            }
            if (at == start + lengthOf(first)) {
                return c == ';';
            }
            if (at == start + 1 && first == 't') {
                return KIND_LETTERS.indexOf((char) c) >= 0;
            }
            return c >= '0' && c <= '9';
        }

        private static int lengthOf(int first) {
            return first == 't' || first == 'b' ? 4 : 3;
        }

        private boolean tellStatement(Hoist hoist, int start) {
            switch (letterAt(start)) {
                case 't':
                    return hoist.add(KIND_LETTERS.indexOf((char) letterAt(start + 1)), digit(start + 2), digit(start + 3));
                case 'h':
                    return hoist.put(digit(start + 1), digit(start + 2));
                case 'b':
                    return hoist.load(digit(start + 1), number(start + 2));
                case 'f':
                    return hoist.lift(number(start + 1));
                case 'd':
                    return hoist.switchDoor(number(start + 1));
                case 'n':
                    return hoist.pass(number(start + 1));
                default:
                    return false;
            }
        }

        private int letterAt(int place) {
            return place >= 0 && place < told && place < letters.length ? letters[place] : 0;
        }

        private int digit(int place) {
            return letterAt(place) - '0';
        }

        private int number(int place) {
            return 10 * digit(place) + digit(place + 1);
        }
    }
}
