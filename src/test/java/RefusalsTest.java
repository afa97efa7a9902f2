import java.util.ArrayList;
import java.util.Arrays;
import java.util.HashMap;
import java.util.List;
import java.util.Map;

/**
 * Each call with each of its arguments at, below and above its edges, in objects that are new, in use and full:
 * the REFUSAL that fits first is answered and counted, and nothing else changes; what is not refused counts none.
 */
public final class RefusalsTest extends Due {
    private static final int MIN = Integer.MIN_VALUE;
    private static final int MAX = Integer.MAX_VALUE;

    /** An object brought somewhere, and what its REFUSALS depend on. */
    private static final class Scene {
        final String name;
        final int things;
        final int offBits;
        final int letters;
        final int rowLength;
        final int day;
        final boolean imaged;

        Scene(String name, int things, int offBits, int letters, int rowLength, int day, boolean imaged) {
            this.name = name;
            this.things = things;
            this.offBits = offBits;
            this.letters = letters;
            this.rowLength = rowLength;
            this.day = day;
            this.imaged = imaged;
        }

        boolean has(int thing) {
            return thing >= 0 && thing < things;
        }

        boolean isOff(int thing) {
            return (offBits >> thing & 1) == 1;
        }

        HoistsAreShared make() {
            switch (name) {
                case "new":
                    return new HoistsAreShared();
                case "used":
                    return used();
                case "almost full":
                    return almostFull();
                default:
                    return full();
            }
        }

        private static HoistsAreShared used() {
            HoistsAreShared x = told("th50;tt41;ts22;tw90;b012;b109;d07;n03;");
            x.image();
            tell(x, "h01;f12;n04;h30;");
            // What THINGS 0 and 1 weigh: were the ROW another one, JUDGED would tell it.
            fillRow(x, 6, 8);
            spell(x, "f03;t");
            return x;
        }

        private static HoistsAreShared almostFull() {
            HoistsAreShared x = told("th00;th01;".repeat(3) + "th02;n40;");
            passDays(x, 900);
            fillRow(x, 1, 1, 1, 1, 1, 1, 1, 9, 9, 9, 9, 9, 9, 9, 9);
            spell(x, "f11;b020;b120;n01;d04;".repeat(4) + "h02;n2");
            return x;
        }

        private static HoistsAreShared full() {
            HoistsAreShared x = told("th50;tl31;tt72;ts40;tb21;tw92;th00;tt01;b020;");
            passDays(x, 990);
            x.image();
            x.days(9);
            fillRow(x, 6, 8, 28, 15, 9, 0, 1, 21, 5, 5, 5, 5, 5, 5, 5, 5);
            spell(x, "f10;f11;d07;".repeat(8));
            return x;
        }
    }

    private static final Scene[] SCENES = {
        new Scene("new", 0, 0, 0, 0, 0, false),
        new Scene("used", 4, 4, 5, 2, 7, true),
        new Scene("almost full", 7, 64, 94, 15, 940, false),
        new Scene("full", 8, 4 | 32, 96, 16, 999, true),
    };

    /** A call, and the least and the greatest of each argument; -9 stands for the last THING. */
    private static final Object[][] FACE = {
        {"letter", 0, 255}, {"hoist"}, {"thing", 0, -9, 0, 4}, {"side", 0, 1, 0, 5},
        {"hangs", 0, -9, 0, 2}, {"loads", 0, 1, 0, 50}, {"lifts", 0, 20}, {"doors", 0, 20},
        {"turn", 0, -9, 0, 5, 0, 9}, {"days", 1, 60}, {"floorThen", 0, 1, 0, 60},
        {"weighsThen", 0, -9, 0, 60}, {"pull", 0, 60}, {"meets"}, {"comes", 0, 1, 0, 20},
        {"strikes", 0, 1}, {"door", 0, 1}, {"level", 0, 60}, {"take", 0, 30}, {"hang", 0, 30},
        {"change"}, {"ballast", 0, 1, 0, 30, 0, 1}, {"mustWeigh", 0, -9, 0, 1, 0, 30},
        {"bestKind", 0, -9, 0, 30, 0, 1}, {"heaviest", 0, 4}, {"two", 0, -9, 0, -9, 0, 30},
        {"draught", 0, 7, 2, 20, 0, 20, 0, 1}, {"mean", 0, 1}, {"whatIs", 0, -9, 0, 1}, {"row", 0, 99},
        {"judge"}, {"clear"}, {"lots", 1, 20, -1, 1, 0, 1}, {"image"}, {"on"}, {"count", 11, 16},
    };

    private static final List<String> CHANGING = Arrays.asList("letter", "hoist", "hangs", "loads", "lifts", "doors",
            "turn", "days", "row", "judge", "clear", "image", "on");

    public static void main(String[] args) {
        for (Scene scene : SCENES) {
            scenery(scene);
            List<Long> seen = Seen.all(scene.make());
            for (Object[] face : FACE) {
                eachCase(scene, seen, face, new int[(face.length - 1) / 2], 0);
            }
        }
        inOrder();
        countedApart();
        end();
    }

    /** The scene is as it is told above: else the cases behind it would show nothing. */
    private static void scenery(Scene scene) {
        HoistsAreShared x = scene.make();
        due(37, scene.name + ": THINGS", x.count(0), scene.things);
        due(37, scene.name + ": OFF", x.count(4), scene.offBits);
        due(37, scene.name + ": letters", x.count(7), scene.letters);
        due(37, scene.name + ": ROW", x.count(6), scene.rowLength);
        due(37, scene.name + ": DAY", x.count(1), scene.day);
        for (int i = 11; i <= 16; i++) {
            due(37, scene.name + ": REFUSALS " + i, x.count(i), 0);
        }
        due(32, scene.name + ": ROW by what THINGS weigh", x.judge(), scene.rowLength > scene.things ? scene.things : -9);
        due(36, scene.name + ": IMAGE", x.on() >= 0 ? 1 : 0, scene.imaged ? 1 : 0);
    }

    private static void eachCase(Scene scene, List<Long> seen, Object[] face, int[] args, int at) {
        if (at == args.length) {
            oneCase(scene, seen, (String) face[0], args);
            return;
        }
        int least = (Integer) face[1 + 2 * at];
        int told = (Integer) face[2 + 2 * at];
        int greatest = told == -9 ? Math.max(0, scene.things - 1) : told;
        int[] edges = {MIN, least - 1, least, greatest, greatest + 1, MAX};
        for (int i = 0; i < edges.length; i++) {
            if (i == 0 || edges[i] != edges[i - 1]) {
                args[at] = edges[i];
                eachCase(scene, seen, face, args, at + 1);
            }
        }
    }

    private static void oneCase(Scene scene, List<Long> seen, String call, int[] args) {
        int promise = Seen.promiseOf(call);
        HoistsAreShared x = scene.make();
        String text = scene.name + ": " + call + Arrays.toString(args);
        long got = Seen.call(x, call, args);
        int[] all = Arrays.copyOf(args, 4);
        int why = refusal(scene, call, all[0], all[1], all[2], all[3]);
        if (why != 0) {
            due(promise, text, got, toldAs(call, why));
        } else if (!call.equals("pull") && !call.equals("count")) {
            due(promise, text + " is not refused", isRefusal(call, got) ? 1 : 0, 0);
        } else if (call.equals("count")) {
            due(promise, text, got, args[0] >= 11 && args[0] <= 16 ? 0 : -9);
        }
        int[] counts = Seen.refusals(x);
        for (int i = 0; i < counts.length; i++) {
            due(37, text + " then count(" + (11 + i) + ")", counts[i], why == -1 - i ? 1 : 0);
        }
        if (why != 0 || !CHANGING.contains(call)) {
            due(promise, text + " changes nothing", Seen.all(x).equals(seen) ? 1 : 0, 1);
        }
    }

    private static long toldAs(String call, int why) {
        switch (call) {
            case "pull":
                return PULL_REFUSED - why;
            case "draught":
            case "mean":
                return LONG_REFUSED - why;
            default:
                return why;
        }
    }

    private static boolean isRefusal(String call, long got) {
        return call.equals("draught") || call.equals("mean") ? got >= LONG_REFUSED : got < 0 && got >= -6;
    }

    /** The conditions of the call by its promise, in the order in which that tells them. */
    private static int refusal(Scene s, String call, int a, int b, int c, int d) {
        switch (call) {
            case "letter": return first(a < 0, -4, a > 255 || s.letters == 96, -6);
            case "thing": return first(!s.has(a), -1, isNot(b, 0, 4), -2);
            case "side": return first(isNot(a, 0, 1), -1, isNot(b, 0, 5), -2);
            case "hangs": return first(!s.has(a), -1, isNot(b, 0, 2), -2);
            case "loads": return first(isNot(a, 0, 1), -1, b < 0, -4, b > 50, -6);
            case "lifts":
            case "doors": return first(isNot(a, 0, 20), -1);
            case "turn": return first(!s.has(a), -1, isNot(b, 0, 5), -2, c < 0, -4, c > 9, -6);
            case "days": return first(a < 1, -4, a > 60 || a > 999 - s.day, -6);
            case "floorThen": return first(isNot(a, 0, 1), -1, b < 0, -4, b > 60, -6);
            case "weighsThen": return first(!s.has(a), -1, b < 0, -4, b > 60, -6);
            case "pull":
            case "level": return first(a < 0, -4, a > 60, -6);
            case "comes": return first(isNot(a, 0, 1) || isNot(b, 0, 20), -1);
            case "strikes": return first(isNot(a, 0, 1), -2);
            case "door": return first(isNot(a, 0, 1), -1);
            case "take":
            case "hang": return first(a < 0, -4, a > 30, -6);
            default: return refusalOfMore(s, call, a, b, c, d);
        }
    }

    private static int refusalOfMore(Scene s, String call, int a, int b, int c, int d) {
        switch (call) {
            case "ballast": return first(isNot(a, 0, 1), -1, b < 0, -4, b > 30, -6, isNot(c, 0, 1), -2);
            case "mustWeigh": return first(!s.has(a) || isNot(b, 0, 1), -1, c < 0, -4, c > 30, -6);
            case "bestKind": return first(!s.has(a), -1, b < 0, -4, b > 30, -6, isNot(c, 0, 1), -2);
            case "heaviest": return first(isNot(a, 0, 4), -2);
            case "two":
                if (!s.has(a) || !s.has(b) || a == b) {
                    return -1;
                }
                return first(c < 0, -4, c > 30, -6, s.isOff(a) || s.isOff(b), -3);
            case "draught":
                return first(a < 0 || c < 0 || b < 2, -4, a > 7 || b > 20 || c > 20, -6, isNot(d, 0, 1), -2);
            case "mean": return first(isNot(a, 0, 1), -2);
            case "whatIs": return first(!s.has(a), -1, isNot(b, 0, 1), -2);
            case "row": return first(a < 0, -4, a > 99 || s.rowLength == 16, -6);
            case "lots": return first(a < 1, -4, a > 20, -6, isNot(c, 0, 1), -2);
            case "on": return first(!s.imaged, -3);
            default: return 0;
        }
    }

    private static boolean isNot(int v, int least, int greatest) {
        return v < least || v > greatest;
    }

    private static int first(Object... conditionsAndReasons) {
        for (int i = 0; i < conditionsAndReasons.length; i += 2) {
            if ((Boolean) conditionsAndReasons[i]) {
                return (Integer) conditionsAndReasons[i + 1];
            }
        }
        return 0;
    }

    /** One call of each that tells more than one REFUSAL, with all of them to be told: the first one is. */
    private static void inOrder() {
        HoistsAreShared x = told("th50;th32;");
        due(4, "thing: NOBODY ahead of OTHER", x.thing(2, 5), -1);
        due(5, "side: NOBODY ahead of OTHER", x.side(2, 6), -1);
        due(6, "hangs: NOBODY ahead of OTHER", x.hangs(2, 3), -1);
        due(7, "loads: NOBODY ahead of BELOW", x.loads(2, -1), -1);
        due(7, "loads: NOBODY ahead of ROOM", x.loads(-1, 51), -1);
        due(10, "turn: NOBODY ahead of OTHER", x.turn(2, 6, -1), -1);
        due(10, "turn: OTHER ahead of BELOW", x.turn(0, 6, -1), -2);
        due(10, "turn: OTHER ahead of ROOM", x.turn(0, -1, 10), -2);
        due(12, "floorThen: NOBODY ahead of BELOW", x.floorThen(2, -1), -1);
        due(13, "weighsThen: NOBODY ahead of ROOM", x.weighsThen(2, 61), -1);
        due(23, "ballast: NOBODY ahead of BELOW", x.ballast(2, -1, 2), -1);
        due(23, "ballast: BELOW ahead of OTHER", x.ballast(0, -1, 2), -4);
        due(23, "ballast: ROOM ahead of OTHER", x.ballast(0, 31, 2), -6);
        due(24, "mustWeigh: NOBODY, the side, ahead of BELOW", x.mustWeigh(0, 2, -1), -1);
        due(24, "mustWeigh: NOBODY, the THING, ahead of ROOM", x.mustWeigh(2, 0, 31), -1);
        due(25, "bestKind: NOBODY ahead of BELOW", x.bestKind(2, -1, 2), -1);
        due(25, "bestKind: BELOW ahead of OTHER", x.bestKind(0, -1, 2), -4);
        due(25, "bestKind: ROOM ahead of OTHER", x.bestKind(0, 31, 2), -6);
        due(27, "two: NOBODY, one twice, ahead of STATE", x.two(1, 1, 0), -1);
        due(27, "two: BELOW ahead of STATE", x.two(0, 1, -1), -4);
        due(27, "two: ROOM ahead of STATE", x.two(0, 1, 31), -6);
        due(28, "draught: BELOW, the last, ahead of ROOM, the first", x.draught(8, 2, -1, 2), LONG_REFUSED + 4);
        due(28, "draught: ROOM ahead of OTHER", x.draught(0, 2, 21, 2), LONG_REFUSED + 6);
        due(30, "whatIs: NOBODY ahead of OTHER", x.whatIs(2, 2), -1);
        due(34, "lots: BELOW ahead of OTHER", x.lots(0, 0, 2), -4);
        due(34, "lots: ROOM ahead of OTHER", x.lots(21, 0, 2), -6);
        int[] counts = {14, 2, 0, 5, 0, 5};
        for (int i = 0; i < counts.length; i++) {
            due(37, "count(" + (11 + i) + ") of these", x.count(11 + i), counts[i]);
        }
    }

    /** One more REFUSAL of each number at a time: no other count goes with it, and -5 is none. */
    private static void countedApart() {
        HoistsAreShared x = told("th52;th31;");
        Map<Integer, Integer> want = new HashMap<>();
        List<Object[]> refused = new ArrayList<>();
        refused.add(new Object[] {-1, "lifts", new int[] {21}});
        refused.add(new Object[] {-2, "strikes", new int[] {2}});
        refused.add(new Object[] {-3, "on", new int[] {}});
        refused.add(new Object[] {-3, "two", new int[] {0, 1, 5}});
        refused.add(new Object[] {-4, "pull", new int[] {-1}});
        refused.add(new Object[] {-6, "draught", new int[] {8, 2, 0, 0}});
        refused.add(new Object[] {-2, "mean", new int[] {2}});
        refused.add(new Object[] {-6, "pull", new int[] {61}});
        refused.add(new Object[] {-4, "draught", new int[] {0, 1, 0, 0}});
        for (int round = 0; round < 3; round++) {
            for (Object[] one : refused) {
                int why = (Integer) one[0];
                due(37, one[1] + " in round " + round, Seen.call(x, (String) one[1], (int[]) one[2]),
                        toldAs((String) one[1], why));
                want.merge(why, 1, Integer::sum);
                for (int i = 1; i <= 6; i++) {
                    due(37, "count(" + (10 + i) + ") behind " + one[1], x.count(10 + i), want.getOrDefault(-i, 0));
                }
            }
        }
    }
}
