import java.lang.reflect.InvocationTargetException;
import java.lang.reflect.Method;
import java.math.BigInteger;
import java.util.ArrayList;
import java.util.Arrays;
import java.util.HashMap;
import java.util.List;
import java.util.Map;
import java.util.Random;
import java.util.regex.Matcher;
import java.util.regex.Pattern;

/**
 * Long runs of calls, each answer held against a second reading of the document: a slow model that copies all
 * that there is for each thought, tries every case, and reads a HOIST by a regular expression.
 */
public final class ModelTest {
    private static final int RUNS = 3000;
    private static final int CALLS = 500;

    // ---- The second reading

    private static class Hat {
        int figure;
        int where;
        int since;

        int weight(int day) {
            return figure + 1;
        }

        int kind() {
            return 0;
        }

        static Hat of(int kind, int figure, int where, int since) {
            Hat made = kind == 0 ? new Hat() : kind == 1 ? new Ledger() : kind == 2 ? new Thought()
                    : kind == 3 ? new Season() : kind == 4 ? new Boots() : new Wish();
            made.figure = figure;
            made.where = where;
            made.since = since;
            return made;
        }
    }

    private static class Ledger extends Hat {
        @Override int weight(int day) {
            return super.weight(day) * 2;
        }

        @Override int kind() {
            return 1;
        }
    }

    private static class Thought extends Hat {
        @Override int weight(int day) {
            int more = (day - since) / 2;
            return super.weight(day) + (more > 20 ? 20 : more);
        }

        @Override int kind() {
            return 2;
        }
    }

    private static final class Season extends Hat {
        @Override int weight(int day) {
            return super.weight(day) * (day % 10 <= 4 ? 1 : 3);
        }

        @Override int kind() {
            return 3;
        }
    }

    private static final class Boots extends Ledger {
        @Override int weight(int day) {
            return super.weight(day) + 3;
        }

        @Override int kind() {
            return 4;
        }
    }

    private static final class Wish extends Thought {
        @Override int weight(int day) {
            int less = 30 - super.weight(day);
            return less < 0 ? 0 : less;
        }

        @Override int kind() {
            return 5;
        }
    }

    private static final class World {
        int floor = 10;
        int day = 0;
        boolean[] doors = new boolean[21];
        int[] ballast = {10, 10};
        List<Hat> things = new ArrayList<>();

        World() {
            for (int door : new int[] {0, 5, 15, 20}) {
                doors[door] = true;
            }
        }

        World copy() {
            World c = new World();
            c.floor = floor;
            c.day = day;
            c.doors = doors.clone();
            c.ballast = ballast.clone();
            for (Hat h : things) {
                c.things.add(Hat.of(h.kind(), h.figure, h.where, h.since));
            }
            return c;
        }

        int weight(int side) {
            int sum = ballast[side];
            for (Hat h : things) {
                sum += h.where == side ? h.weight(day) : 0;
            }
            return sum;
        }

        int pull() {
            return weight(0) - weight(1);
        }

        void go(int pull) {
            int steps = Math.min(3, Math.abs(pull) / 4);
            for (int i = 0; i < steps; i++) {
                if (pull > 0 && floor > 0) {
                    floor--;
                } else if (pull < 0 && floor < 20) {
                    floor++;
                }
            }
        }

        World after(int n) {
            World c = copy();
            for (int i = 0; i < n; i++) {
                c.day++;
                c.go(c.pull());
            }
            return c;
        }

        int height(int side) {
            return side == 0 ? floor : 20 - floor;
        }

        int apart() {
            return Math.abs(height(0) - height(1));
        }

        World hung(int thing, int where) {
            World c = copy();
            c.things.get(thing).where = where;
            c.things.get(thing).since = day;
            return c;
        }

        World turned(int thing, int kind, int figure) {
            World c = copy();
            Hat h = c.things.get(thing);
            c.things.set(thing, Hat.of(kind, figure, h.where, h.since));
            return c;
        }

        int bits(int where) {
            int bits = 0;
            for (int i = 0; i < things.size(); i++) {
                bits += things.get(i).where == where ? 1 << i : 0;
            }
            return bits;
        }

        int open() {
            return (doors[height(0)] ? 1 : 0) + (doors[height(1)] ? 2 : 0);
        }
    }

    private static final class Refused extends RuntimeException {
        private static final long serialVersionUID = 1L;
        final int why;

        Refused(int why) {
            super(null, null, false, false);
            this.why = why;
        }
    }

    private static void need(boolean holds, int why) {
        if (!holds) {
            throw new Refused(why);
        }
    }

    private static final class Model {
        static final Pattern HOIST =
                Pattern.compile("(t[hltsbw][0-9][0-9];|h[0-9][0-9];|b[0-9][0-9][0-9];|[fdn][0-9][0-9];)+");
        World w = new World();
        World image = null;
        final StringBuilder letters = new StringBuilder();
        final List<Integer> row = new ArrayList<>();
        final int[] refusals = new int[7];

        long answer(String call, int[] a) {
            try {
                return call.equals("draught") || call.equals("mean") ? fraction(call, a) : plain(call, a);
            } catch (Refused r) {
                refusals[-r.why]++;
                if (call.equals("pull")) {
                    return 1000000000 - r.why;
                }
                return call.equals("draught") || call.equals("mean") ? 4000000000000000000L - r.why : r.why;
            }
        }

        void thingIs(int t) {
            need(t >= 0 && t < w.things.size(), -1);
        }

        void sideIs(int s) {
            need(s == 0 || s == 1, -1);
        }

        void floorIs(int f) {
            need(f >= 0 && f <= 20, -1);
        }

        void within(int n, int least, int most) {
            need(n >= least, -4);
            need(n <= most, -6);
        }

        void what(int what, int most) {
            need(what >= 0 && what <= most, -2);
        }

        int plain(String call, int[] a) {
            switch (call) {
                case "letter":
                    within(a[0], 0, 255);
                    need(letters.length() < 96, -6);
                    letters.append((char) a[0]);
                    return letters.length();
                case "hoist": return hoist();
                case "thing": return thing(a[0], a[1]);
                case "side": return side(a[0], a[1]);
                case "hangs": {
                    thingIs(a[0]);
                    what(a[1], 2);
                    int was = w.things.get(a[0]).where;
                    w = w.hung(a[0], a[1]);
                    return was;
                }
                case "loads": {
                    sideIs(a[0]);
                    within(a[1], 0, 50);
                    int was = w.ballast[a[0]];
                    w.ballast[a[0]] = a[1];
                    return was;
                }
                case "lifts": {
                    floorIs(a[0]);
                    int was = w.floor;
                    w.floor = a[0];
                    return was;
                }
                case "doors":
                    floorIs(a[0]);
                    w.doors[a[0]] = !w.doors[a[0]];
                    return w.doors[a[0]] ? 1 : 0;
                case "turn": {
                    thingIs(a[0]);
                    what(a[1], 5);
                    within(a[2], 0, 9);
                    Hat h = w.things.get(a[0]);
                    w = w.turned(a[0], a[1], a[2]);
                    return h.kind() * 10 + h.figure;
                }
                case "days":
                    within(a[0], 1, 60);
                    need(w.day + a[0] <= 999, -6);
                    w = w.after(a[0]);
                    return w.floor;
                case "row":
                    within(a[0], 0, 99);
                    need(row.size() < 16, -6);
                    row.add(a[0]);
                    return row.size();
                case "judge": {
                    int answer = -9;
                    for (int i = row.size() - 1; i >= 0; i--) {
                        boolean so = i < w.things.size() && w.things.get(i).weight(w.day) == row.get(i);
                        answer = so ? answer : i;
                    }
                    row.clear();
                    return answer;
                }
                case "clear": {
                    int had = row.size();
                    row.clear();
                    return had;
                }
                case "image":
                    image = w.copy();
                    return w.day;
                case "on":
                    need(image != null, -3);
                    w = image.copy();
                    return w.day;
                case "count": return count(a[0]);
                default: return thought(call, a);
            }
        }

        int hoist() {
            String text = letters.toString();
            letters.setLength(0);
            for (int k = 1; k <= text.length(); k++) {
                Matcher m = HOIST.matcher(text.substring(0, k));
                if (!m.matches() && !m.hitEnd()) {
                    return -1000 - (k - 1);
                }
            }
            if (!HOIST.matcher(text).matches()) {
                return -1000 - text.length();
            }
            World c = w.copy();
            int place = 0;
            int statements = 0;
            for (String s : text.split(";")) {
                c = statement(c, s);
                if (c == null) {
                    return -2000 - place;
                }
                statements++;
                place += s.length() + 1;
            }
            w = c;
            return statements;
        }

        World statement(World c, String s) {
            int d1 = s.charAt(1) - '0';
            int d2 = s.charAt(2) - '0';
            int both = d1 * 10 + d2;
            switch (s.charAt(0)) {
                case 't':
                    if (c.things.size() == 8 || s.charAt(3) > '2') {
                        return null;
                    }
                    c.things.add(Hat.of("hltsbw".indexOf(s.charAt(1)), d2, s.charAt(3) - '0', c.day));
                    return c;
                case 'h':
                    return d1 >= c.things.size() || d2 > 2 ? null : c.hung(d1, d2);
                case 'b': {
                    int v = Integer.parseInt(s.substring(2));
                    if (d1 > 1 || v > 50) {
                        return null;
                    }
                    c.ballast[d1] = v;
                    return c;
                }
                case 'f':
                    c.floor = both;
                    return both > 20 ? null : c;
                case 'd':
                    if (both > 20) {
                        return null;
                    }
                    c.doors[both] ^= true;
                    return c;
                default:
                    return both < 1 || both > 60 || c.day + both > 999 ? null : c.after(both);
            }
        }

        int thing(int t, int what) {
            thingIs(t);
            what(what, 4);
            Hat h = w.things.get(t);
            return new int[] {h.kind(), h.figure, h.where, h.since, h.weight(w.day)}[what];
        }

        int side(int s, int what) {
            sideIs(s);
            what(what, 5);
            int nearest = -9;
            int far = -9;
            for (int d = 20; d >= 0; d--) {
                int off = Math.abs(d - w.height(s));
                if (w.doors[d] && (far < 0 || off <= far)) {
                    far = off;
                    nearest = d;
                }
            }
            return new int[] {w.height(s), w.ballast[s], w.weight(s), w.bits(s), nearest, far}[what];
        }

        int count(int what) {
            int all = 0;
            for (Hat h : w.things) {
                all += h.weight(w.day);
            }
            int doorBits = 0;
            for (int d = 0; d <= 20; d++) {
                doorBits += w.doors[d] ? 1 << d : 0;
            }
            if (what >= 11 && what <= 16) {
                return refusals[what - 10];
            }
            int[] all8 = {w.things.size(), w.day, w.floor, doorBits, w.bits(2), all, row.size(), letters.length()};
            return what >= 0 && what < 8 ? all8[what] : -9;
        }

        int thought(String call, int[] a) {
            switch (call) {
                case "floorThen":
                    sideIs(a[0]);
                    within(a[1], 0, 60);
                    return w.after(a[1]).height(a[0]);
                case "weighsThen":
                    thingIs(a[0]);
                    within(a[1], 0, 60);
                    return w.things.get(a[0]).weight(w.day + a[1]);
                case "pull":
                    within(a[0], 0, 60);
                    return w.after(a[0]).pull();
                case "meets":
                    for (int n = 0; n <= 60; n++) {
                        if (w.after(n).apart() == 0) {
                            return n;
                        }
                    }
                    return -9;
                case "comes":
                    sideIs(a[0]);
                    floorIs(a[1]);
                    for (int n = 0; n <= 60; n++) {
                        if (w.after(n).height(a[0]) == a[1]) {
                            return n;
                        }
                    }
                    return -9;
                case "strikes":
                    what(a[0], 1);
                    for (int n = 0; n <= 60; n++) {
                        if (a[0] == 0 ? w.after(n).floor % 20 == 0 : still(w.after(n))) {
                            return n;
                        }
                    }
                    return -9;
                case "door":
                    sideIs(a[0]);
                    for (int n = 0; n <= 60; n++) {
                        if (w.doors[w.after(n).height(a[0])]) {
                            return n;
                        }
                    }
                    return -9;
                case "level": {
                    within(a[0], 0, 60);
                    int often = 0;
                    for (int n = 0; n <= a[0]; n++) {
                        often += w.after(n).apart() == 0 ? 1 : 0;
                    }
                    return often;
                }
                default: return advice(call, a);
            }
        }

        static boolean still(World from) {
            for (int i = 1; i <= 10; i++) {
                if (from.after(i).floor != from.floor) {
                    return false;
                }
            }
            return true;
        }

        int advice(String call, int[] a) {
            switch (call) {
                case "take": {
                    within(a[0], 0, 30);
                    Map<Integer, Integer> near = new HashMap<>();
                    for (int t = 0; t < w.things.size(); t++) {
                        if (w.things.get(t).where != 2) {
                            near.put(t, w.hung(t, 2).after(a[0]).apart());
                        }
                    }
                    return nearer(near, w.after(a[0]).apart());
                }
                case "hang": {
                    within(a[0], 0, 30);
                    Map<Integer, Integer> near = new HashMap<>();
                    for (int t = 0; t < w.things.size(); t++) {
                        for (int s = 0; s < 2 && w.things.get(t).where == 2; s++) {
                            near.put(10 * t + s, w.hung(t, s).after(a[0]).apart());
                        }
                    }
                    return nearer(near, w.after(a[0]).apart());
                }
                case "change": return change();
                case "ballast": {
                    sideIs(a[0]);
                    within(a[1], 0, 30);
                    what(a[2], 1);
                    Map<Integer, Integer> near = new HashMap<>();
                    for (int v = 0; v <= 50; v++) {
                        World c = w.copy();
                        c.ballast[a[0]] = v;
                        near.put(v, c.after(a[1]).apart());
                    }
                    int best = nearer(near, 99);
                    return a[2] == 0 ? best : near.get(best);
                }
                case "mustWeigh":
                    need(a[0] >= 0 && a[0] < w.things.size() && (a[1] == 0 || a[1] == 1), -1);
                    within(a[2], 0, 30);
                    for (int f = 0; f <= 9; f++) {
                        if (w.doors[w.turned(a[0], w.things.get(a[0]).kind(), f).after(a[2]).height(a[1])]) {
                            return f;
                        }
                    }
                    return -9;
                case "bestKind": {
                    thingIs(a[0]);
                    within(a[1], 0, 30);
                    what(a[2], 1);
                    Map<Integer, Integer> near = new HashMap<>();
                    for (int k = 0; k < 6; k++) {
                        near.put(k, w.turned(a[0], k, w.things.get(a[0]).figure).after(a[1]).apart());
                    }
                    int best = nearer(near, 99);
                    return a[2] == 0 ? best : near.get(best);
                }
                case "heaviest": return heaviest(a[0]);
                case "two": return two(a[0], a[1], a[2]);
                case "whatIs": return whatIs(a[0], a[1]);
                case "lots": return lots(a[0], a[1], a[2]);
                default: throw new IllegalStateException(call);
            }
        }

        static int nearer(Map<Integer, Integer> near, int than) {
            int least = than;
            for (int v : near.values()) {
                least = Math.min(least, v);
            }
            int best = -9;
            for (Map.Entry<Integer, Integer> e : near.entrySet()) {
                if (e.getValue() == least && least < than && (best == -9 || e.getKey() < best)) {
                    best = e.getKey();
                }
            }
            return best;
        }

        int change() {
            int best = -9;
            int on = w.bits(0) | w.bits(1);
            for (int bits = 255; bits >= 0; bits--) {
                if ((bits & ~on) == 0) {
                    World c = w;
                    for (int t = 0; t < 8; t++) {
                        c = (bits >> t & 1) == 1 ? c.hung(t, 1 - w.things.get(t).where) : c;
                    }
                    boolean fewer = best == -9 || Integer.bitCount(bits) <= Integer.bitCount(best);
                    best = c.pull() / 4 == 0 && fewer ? bits : best;
                }
            }
            return best;
        }

        int heaviest(int what) {
            what(what, 4);
            int best = -9;
            int bits = 0;
            for (int t = w.things.size() - 1; t >= 0; t--) {
                int now = w.things.get(t).weight(w.day);
                int then = w.things.get(t).weight(w.day + 1);
                int held = best == -9 ? now : w.things.get(best).weight(w.day);
                if (what == 0 && now >= held || what == 1 && now <= held) {
                    best = t;
                }
                if (what == 3 && then > now || what == 4 && then < now) {
                    bits |= 1 << t;
                }
            }
            return what < 2 ? best : what == 2 ? w.open() : bits;
        }

        int two(int a, int b, int n) {
            need(a >= 0 && a < w.things.size() && b >= 0 && b < w.things.size() && a != b, -1);
            within(n, 0, 30);
            int sideA = w.things.get(a).where;
            int sideB = w.things.get(b).where;
            need(sideA != 2 && sideB != 2, -3);
            int[][] gainA = new int[2][2];
            int[][] gainB = new int[2][2];
            for (int i = 0; i < 2; i++) {
                for (int j = 0; j < 2; j++) {
                    World c = i == 0 ? w.hung(a, 2) : w;
                    c = j == 0 ? c.hung(b, 2) : c;
                    gainA[i][j] = c.after(n).height(sideA) + i;
                    gainB[i][j] = c.after(n).height(sideB) + j;
                }
            }
            for (int i = 0; i < 2; i++) {
                for (int j = 0; j < 2; j++) {
                    if (gainA[1 - i][j] <= gainA[i][j] && gainB[i][1 - j] <= gainB[i][j]) {
                        return 10 * i + j;
                    }
                }
            }
            return -9;
        }

        int whatIs(int t, int what) {
            thingIs(t);
            what(what, 1);
            Hat h = w.things.get(t);
            int bits = 0;
            for (int i = 0; i < (what == 0 ? 6 : 10); i++) {
                World c = what == 0 ? w.turned(t, i, h.figure) : w.turned(t, h.kind(), i);
                boolean so = true;
                for (int n = 0; n < row.size(); n++) {
                    so &= c.after(n).floor == row.get(n);
                }
                bits += so ? 1 << i : 0;
            }
            return bits;
        }

        int lots(int n, int seed, int what) {
            within(n, 1, 20);
            what(what, 1);
            BigInteger z = BigInteger.valueOf(seed);
            int level = 0;
            int open = 0;
            for (int i = 0; i < n; i++) {
                World c = w;
                for (int t = 0; t < w.things.size(); t++) {
                    z = z.multiply(BigInteger.valueOf(1664525)).add(BigInteger.valueOf(1013904223))
                            .mod(BigInteger.ONE.shiftLeft(32));
                    int draw = z.clearBit(31).shiftRight(8).mod(BigInteger.valueOf(3)).intValue();
                    c = c.hung(t, draw);
                }
                c = c.after(12);
                level += c.apart() == 0 ? 1 : 0;
                open += Integer.bitCount(c.open());
            }
            return what == 0 ? level : open;
        }

        long fraction(String call, int[] a) {
            BigInteger above = BigInteger.ZERO;
            BigInteger below = BigInteger.ONE;
            int part;
            if (call.equals("mean")) {
                what(a[0], 1);
                part = a[0];
                above = BigInteger.valueOf(count(5));
                below = BigInteger.valueOf(Math.max(1, w.things.size()));
            } else {
                need(a[0] >= 0 && a[2] >= 0 && a[1] >= 2, -4);
                need(a[0] <= 7 && a[2] <= 20 && a[1] <= 20, -6);
                what(a[3], 1);
                part = a[3];
                below = BigInteger.valueOf(a[1]).pow(a[0]);
                for (int days = 0; days < 1 << a[0]; days++) {
                    World c = w.copy();
                    for (int i = 0; i < a[0]; i++) {
                        c.day++;
                        c.go(c.pull() - ((days >> i & 1) == 1 ? 8 : 0));
                    }
                    if (c.floor >= a[2]) {
                        above = above.add(BigInteger.valueOf(a[1] - 1).pow(a[0] - Integer.bitCount(days)));
                    }
                }
            }
            BigInteger by = above.gcd(below);
            return (part == 0 ? above : below).divide(by).longValueExact();
        }
    }

    // ---- The runs

    /** The least and the greatest of each argument; what lies about them is called too. */
    private static final Object[][] FACE = {
        {"letter", 0, 255}, {"hoist"}, {"thing", 0, 7, 0, 4}, {"side", 0, 1, 0, 5}, {"hangs", 0, 7, 0, 2},
        {"loads", 0, 1, 0, 50}, {"lifts", 0, 20}, {"doors", 0, 20}, {"turn", 0, 7, 0, 5, 0, 9}, {"days", 1, 60},
        {"floorThen", 0, 1, 0, 60}, {"weighsThen", 0, 7, 0, 60}, {"pull", 0, 60}, {"meets"}, {"comes", 0, 1, 0, 20},
        {"strikes", 0, 1}, {"door", 0, 1}, {"level", 0, 60}, {"take", 0, 30}, {"hang", 0, 30}, {"change"},
        {"ballast", 0, 1, 0, 30, 0, 1}, {"mustWeigh", 0, 7, 0, 1, 0, 30}, {"bestKind", 0, 7, 0, 30, 0, 1},
        {"heaviest", 0, 4}, {"two", 0, 7, 0, 7, 0, 30}, {"draught", 0, 7, 2, 20, 0, 20, 0, 1}, {"mean", 0, 1},
        {"whatIs", 0, 7, 0, 1}, {"row", 0, 99}, {"judge"}, {"clear"}, {"lots", 1, 20, -1000, 1000, 0, 1},
        {"image"}, {"on"}, {"count", 0, 17},
    };

    private final Random random;
    private final Map<String, Method> methods = new HashMap<>();
    private final Map<String, Integer> told = new HashMap<>();
    private final List<String> trace = new ArrayList<>();
    private HoistsAreShared x;
    private Model model;
    private int calls;
    private int wrong;

    private ModelTest(long seed) {
        random = new Random(seed);
        for (Method m : HoistsAreShared.class.getDeclaredMethods()) {
            methods.put(m.getName(), m);
        }
    }

    public static void main(String[] args) throws Exception {
        int runs = args.length > 0 ? Integer.parseInt(args[0]) : RUNS;
        long seed = args.length > 1 ? Long.parseLong(args[1]) : 20261118L;
        ModelTest test = new ModelTest(seed);
        int looked = 0;
        for (int run = 0; run < runs && test.wrong < 5; run++) {
            test.run(run);
            looked += test.calls;
        }
        System.out.println(looked + " answers looked at, " + test.wrong + " not as due");
        for (Object[] face : FACE) {
            if (!test.told.containsKey(face[0])) {
                System.out.println(face[0] + " was never called");
                test.wrong++;
            }
        }
        if (test.wrong != 0) {
            System.exit(1);
        }
    }

    private void run(int number) throws Exception {
        x = new HoistsAreShared();
        model = new Model();
        calls = 0;
        trace.clear();
        boolean wild = number % 10 == 9;
        int before = wrong;
        while (calls < CALLS && wrong == before) {
            int dice = random.nextInt(100);
            if (dice < 12) {
                tellSome(wild);
            } else if (dice < 18) {
                foretellSome();
            } else if (dice < 21) {
                settleSome();
            } else {
                callSome(wild);
            }
        }
        for (int what = 0; what < 17 && wrong == before; what++) {
            call("count", what);
        }
        if (wrong != before) {
            System.out.println("run " + number + ": " + String.join(" ", trace));
        }
    }

    private void callSome(boolean wild) throws Exception {
        Object[] face = FACE[random.nextInt(FACE.length)];
        int[] args = new int[(face.length - 1) / 2];
        for (int i = 0; i < args.length; i++) {
            args[i] = some((Integer) face[1 + 2 * i], (Integer) face[2 + 2 * i], wild);
        }
        // Long runs of DAYS would bring every run to DAY 999 at once.
        if (face[0].equals("days") && random.nextInt(4) != 0) {
            args[0] = 1 + random.nextInt(5);
        }
        if (args.length > 0 && face[2].equals(7) && !face[0].equals("draught") && random.nextInt(8) != 0) {
            args[0] = random.nextInt(Math.max(1, model.w.things.size()));
        }
        if (face[0].equals("lots") && wild) {
            args[1] = random.nextInt();
        }
        if (face[0].equals("row") && random.nextBoolean()) {
            args[0] = random.nextInt(31);
        }
        call((String) face[0], args);
    }

    private int some(int least, int greatest, boolean wild) {
        int dice = random.nextInt(wild ? 12 : 60);
        switch (dice) {
            case 0: return least - 1;
            case 1: return greatest + 1;
            case 2: return greatest;
            case 3: return least;
            case 4: return wild ? Integer.MAX_VALUE : least;
            case 5: return wild ? Integer.MIN_VALUE : greatest;
            case 6: return wild ? random.nextInt() : greatest;
            default: return least + random.nextInt(greatest - least + 1);
        }
    }

    private void tellSome(boolean wild) throws Exception {
        StringBuilder text = new StringBuilder();
        int statements = 1 + random.nextInt(5);
        for (int i = 0; i < statements; i++) {
            text.append(statement());
        }
        if (random.nextInt(wild ? 2 : 8) == 0) {
            int at = random.nextInt(text.length());
            int dice = random.nextInt(3);
            if (dice == 0) {
                text.deleteCharAt(at);
            } else if (dice == 1) {
                text.setCharAt(at, "thbfdnlsw;0123456789z\u00ff".charAt(random.nextInt(22)));
            } else {
                text.setLength(at);
            }
        }
        for (int i = 0; i < text.length(); i++) {
            call("letter", text.charAt(i));
        }
        if (random.nextInt(20) != 0) {
            call("hoist");
        }
    }

    private String statement() {
        boolean odd = random.nextInt(25) == 0;
        int things = Math.max(1, model.w.things.size() + (odd ? 2 : 0));
        switch (random.nextInt(model.w.things.size() < 5 ? 10 : 7)) {
            case 0: return "h" + random.nextInt(Math.min(10, things)) + random.nextInt(odd ? 10 : 3) + ";";
            case 1: return "b" + random.nextInt(odd ? 3 : 2) + two(random.nextInt(odd ? 100 : 51)) + ";";
            case 2: return "f" + two(random.nextInt(odd ? 100 : 21)) + ";";
            case 3: return "d" + two(random.nextInt(odd ? 100 : 21)) + ";";
            case 4: return "n" + two(odd ? random.nextInt(100) : 1 + random.nextInt(12)) + ";";
            case 5: return "f10;b010;b110;";
            default:
                return "t" + "hltsbw".charAt(random.nextInt(6)) + random.nextInt(10) + random.nextInt(odd ? 10 : 3) + ";";
        }
    }

    private static String two(int n) {
        return n < 10 ? "0" + n : "" + n;
    }

    /** A ROW that is so, or nearly: by lot alone none would ever fit. */
    private void foretellSome() throws Exception {
        call("clear");
        boolean floors = random.nextBoolean();
        int n = floors ? 1 + random.nextInt(16) : Math.min(16, random.nextInt(model.w.things.size() + 2));
        int off = random.nextInt(4) == 0 ? random.nextInt(n + 1) : -1;
        for (int i = 0; i < n; i++) {
            int v = floors ? model.w.after(i).floor
                    : i < model.w.things.size() ? model.w.things.get(i).weight(model.w.day) : 0;
            call("row", i == off ? v + 1 : v);
        }
        for (int t = 0; t < model.w.things.size() && floors; t++) {
            call("whatIs", t, random.nextInt(2));
        }
        if (!floors) {
            call("judge");
        }
    }

    /** Brings both sides near to a balance: there the questions have answers that differ. */
    private void settleSome() throws Exception {
        int pull = model.w.pull();
        int side = pull > 0 ? 1 : 0;
        int v = model.w.ballast[side] + Math.abs(pull) + random.nextInt(9) - 4;
        call("loads", side, Math.max(0, Math.min(50, v)));
        call("lifts", 6 + random.nextInt(9));
        call("change");
        call("take", 1 + random.nextInt(10));
        call("hang", 1 + random.nextInt(10));
        call("strikes", 1);
        call("meets");
        int things = model.w.things.size();
        if (things > 1) {
            int a = random.nextInt(things);
            call("two", a, (a + 1 + random.nextInt(things - 1)) % things, random.nextInt(12));
        }
    }

    private void call(String name, int... args) throws Exception {
        if (calls >= CALLS + 17) {
            return;
        }
        calls++;
        told.merge(name, 1, Integer::sum);
        Object[] boxed = Arrays.stream(args).boxed().toArray();
        String text = name + Arrays.toString(args);
        long got;
        try {
            got = ((Number) methods.get(name).invoke(x, boxed)).longValue();
        } catch (InvocationTargetException e) {
            wrong++;
            System.out.println(text + " threw " + e.getCause());
            return;
        }
        long want = model.answer(name, args);
        trace.add(text + "=" + got);
        if (got != want) {
            wrong++;
            System.out.println(text + " answered " + got + ", due is " + want);
        }
    }
}
