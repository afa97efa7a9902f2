import java.util.ArrayList;
import java.util.Arrays;
import java.util.List;

/**
 * Questions are asked in mind alone: what one answers does not hang on what was asked ahead of it. Calls and
 * STATEMENTS that tell the same come to the same, and so do many DAYS at once and one by one.
 */
public final class QuestionsTest extends Due {
    private static final Object[][] QUESTIONS = {
        {"thing", 3, 4}, {"thing", 5, 0}, {"side", 0, 2}, {"side", 1, 3}, {"floorThen", 0, 7}, {"weighsThen", 3, 9},
        {"pull", 0}, {"pull", 11}, {"meets"}, {"comes", 0, 7}, {"strikes", 0}, {"strikes", 1}, {"door", 0}, {"door", 1},
        {"level", 40}, {"take", 4}, {"take", 9}, {"hang", 4}, {"hang", 9}, {"change"}, {"ballast", 0, 8, 0},
        {"ballast", 1, 8, 1}, {"mustWeigh", 3, 0, 6}, {"mustWeigh", 0, 1, 5}, {"bestKind", 0, 5, 0}, {"bestKind", 3, 5, 1},
        {"heaviest", 0}, {"heaviest", 1}, {"heaviest", 2}, {"heaviest", 3}, {"heaviest", 4}, {"two", 0, 1, 6},
        {"two", 3, 0, 9}, {"draught", 5, 3, 9, 0}, {"draught", 2, 4, 8, 1}, {"mean", 0}, {"mean", 1}, {"whatIs", 0, 0},
        {"whatIs", 0, 1}, {"whatIs", 3, 1}, {"lots", 6, 77, 0}, {"lots", 7, -5, 1}, {"count", 4}, {"count", 5},
        {"image"}, {"mean", 9}, {"two", 0, 2, 5},
    };

    public static void main(String[] args) {
        for (Object[] asked : QUESTIONS) {
            int promise = Seen.promiseOf((String) asked[0]);
            long alone = ask(scene(), asked);
            for (Object[] ahead : QUESTIONS) {
                HoistsAreShared x = scene();
                ask(x, ahead);
                due(promise, Arrays.toString(asked) + " behind " + Arrays.toString(ahead), ask(x, asked), alone);
            }
            for (HoistsAreShared x : otherWays()) {
                due(promise, Arrays.toString(asked) + " on another way there", ask(x, asked), alone);
            }
        }
        asStatements();
        oneByOne();
        objectsApart();
        end();
    }

    private static long ask(HoistsAreShared x, Object[] question) {
        int[] args = new int[question.length - 1];
        for (int i = 0; i < args.length; i++) {
            args[i] = (Integer) question[i + 1];
        }
        return Seen.call(x, (String) question[0], args);
    }

    private static HoistsAreShared scene() {
        HoistsAreShared x = told("th30;ts41;tw52;tt20;tl02;tb01;b008;b106;d09;n07;f11;");
        x.hangs(3, 0);
        x.days(1);
        x.lifts(11);
        fillRow(x, 11, 12);
        return x;
    }

    /** Objects that have been elsewhere, and have come to the same as the scene. */
    private static List<HoistsAreShared> otherWays() {
        List<HoistsAreShared> ways = new ArrayList<>();
        HoistsAreShared byImage = scene();
        byImage.image();
        tell(byImage, "h01;h12;b050;f01;d03;d09;n31;th92;");
        byImage.turn(3, 5, 9);
        byImage.on();
        ways.add(byImage);
        HoistsAreShared byTurns = told("th30;tb91;tw52;tl20;tl02;tb01;b000;b106;d09;d04;n07;b008;f00;");
        byTurns.turn(1, 3, 4);
        byTurns.turn(3, 2, 2);
        byTurns.hangs(3, 0);
        byTurns.doors(4);
        byTurns.days(1);
        byTurns.lifts(11);
        fillRow(byTurns, 1, 2, 3);
        byTurns.judge();
        fillRow(byTurns, 11, 12);
        ways.add(byTurns);
        HoistsAreShared byFaults = scene();
        tell(byFaults, "b050;h00;n09;z");
        tell(byFaults, "b050;h02;f20;d09;n09;tw91;th91;th91;");
        byFaults.lots(20, 9, 0);
        ways.add(byFaults);
        return ways;
    }

    private static void asStatements() {
        String start = "th50;tt31;ts72;n03;";
        HoistsAreShared byCalls = told(start);
        byCalls.hangs(2, 0);
        byCalls.days(4);
        byCalls.hangs(1, 1);
        byCalls.loads(0, 31);
        byCalls.loads(1, 0);
        byCalls.lifts(13);
        byCalls.doors(13);
        byCalls.doors(20);
        byCalls.days(2);
        HoistsAreShared byText = told(start);
        tell(byText, "h20;n04;h11;b031;b100;f13;d13;d20;n02;");
        due(3, "calls and STATEMENTS come to the same", Seen.all(byText).equals(Seen.all(byCalls)) ? 1 : 0, 1);
        HoistsAreShared letterByLetter = told(start + "h20;n04;h11;b031;b100;f13;d13;d20;n02;");
        HoistsAreShared inParts = told("th50;");
        tell(inParts, "tt31;ts72;");
        tell(inParts, "n03;h20;n04;");
        tell(inParts, "h11;b031;b100;f13;d13;");
        tell(inParts, "d20;n02;");
        due(3, "one text and many come to the same", Seen.all(inParts).equals(Seen.all(letterByLetter)) ? 1 : 0, 1);
    }

    private static void oneByOne() {
        for (int n = 1; n <= 60; n++) {
            HoistsAreShared atOnce = told("tt00;ts41;tw90;b001;n03;");
            HoistsAreShared oneByOne = told("tt00;ts41;tw90;b001;n03;");
            int then = atOnce.floorThen(0, n);
            int other = atOnce.floorThen(1, n);
            int pull = atOnce.pull(n);
            for (int i = 0; i < n; i++) {
                oneByOne.days(1);
            }
            due(12, "FLOOR behind " + n + " in mind", then, oneByOne.count(2));
            due(12, "the other's", other, 20 - oneByOne.count(2));
            due(14, "PULL behind " + n + " in mind", pull, oneByOne.pull(0));
            due(11, n + " DAYS at once", atOnce.days(n), oneByOne.count(2));
            due(11, n + " DAYS come to the same", Seen.all(atOnce).equals(Seen.all(oneByOne)) ? 1 : 0, 1);
        }
    }

    private static void objectsApart() {
        HoistsAreShared x = scene();
        List<Long> alone = Seen.all(scene());
        HoistsAreShared y = new HoistsAreShared();
        tell(y, "th91;b050;f01;d01;n09;");
        y.image();
        y.row(3);
        y.letter('t');
        y.lifts(21);
        y.lots(5, 5, 0);
        due(1, "another object's calls", Seen.all(x).equals(alone) ? 1 : 0, 1);
    }
}
