import java.lang.reflect.InvocationTargetException;
import java.lang.reflect.Method;
import java.util.ArrayList;
import java.util.Arrays;
import java.util.HashMap;
import java.util.List;
import java.util.Map;

/** All that can be seen of an object by calls: two objects of which the same is seen are in the same state. */
public final class Seen {
    /** In the document's order: letter is the second promise. */
    private static final List<String> CALLS = Arrays.asList("letter", "hoist", "thing", "side", "hangs", "loads",
            "lifts", "doors", "turn", "days", "floorThen", "weighsThen", "pull", "meets", "comes", "strikes", "door",
            "level", "take", "hang", "change", "ballast", "mustWeigh", "bestKind", "heaviest", "two", "draught", "mean",
            "whatIs", "row", "judge", "clear", "lots", "image", "on", "count");
    private static final Map<String, Method> METHODS = new HashMap<>();

    static {
        for (Method m : HoistsAreShared.class.getMethods()) {
            METHODS.put(m.getName(), m);
        }
    }

    private Seen() {
    }

    static long call(HoistsAreShared x, String name, int... args) {
        try {
            return ((Number) METHODS.get(name).invoke(x, Arrays.stream(args).boxed().toArray())).longValue();
        } catch (InvocationTargetException e) {
            throw new IllegalStateException(name + Arrays.toString(args) + " threw " + e.getCause(), e);
        } catch (IllegalAccessException e) {
            throw new IllegalStateException(e);
        }
    }

    static int promiseOf(String call) {
        return CALLS.indexOf(call) + 2;
    }

    static int[] refusals(HoistsAreShared x) {
        int[] counts = new int[6];
        for (int i = 0; i < counts.length; i++) {
            counts[i] = x.count(11 + i);
        }
        return counts;
    }

    /** Uses the object up: its letters are told, its ROW is judged, its IMAGE comes on. */
    static List<Long> all(HoistsAreShared x) {
        List<Long> seen = new ArrayList<>();
        state(x, seen);
        thoughts(x, seen);
        seen.add((long) x.row(7));
        seen.add((long) x.judge());
        seen.add((long) x.hoist());
        state(x, seen);
        seen.add((long) x.on());
        state(x, seen);
        return seen;
    }

    private static void state(HoistsAreShared x, List<Long> seen) {
        for (int what = 0; what <= 7; what++) {
            seen.add((long) x.count(what));
        }
        for (int side = 0; side < 2; side++) {
            for (int what = 0; what <= 5; what++) {
                seen.add((long) x.side(side, what));
            }
        }
        for (int thing = 0; thing < x.count(0); thing++) {
            for (int what = 0; what <= 4; what++) {
                seen.add((long) x.thing(thing, what));
            }
        }
    }

    private static void thoughts(HoistsAreShared x, List<Long> seen) {
        for (int thing = 0; thing < x.count(0); thing++) {
            seen.add((long) x.whatIs(thing, 0));
            seen.add((long) x.whatIs(thing, 1));
        }
        for (int what = 0; what <= 4; what++) {
            seen.add((long) x.heaviest(what));
        }
        for (int n = 0; n <= 60; n += 10) {
            seen.add((long) x.floorThen(0, n));
            seen.add((long) x.pull(n));
        }
        seen.add((long) x.change());
        seen.add((long) x.lots(2, 5, 1));
        seen.add(x.mean(0));
        seen.add(x.draught(3, 2, 9, 0));
    }
}
