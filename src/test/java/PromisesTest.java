/** Each promise of the document by answers that were reckoned by hand. */
public final class PromisesTest extends Due {
    public static void main(String[] args) {
        newObject();
        letter();
        hoistAnswers();
        hoistBroken();
        hoistWrong();
        hoistAtTheLastDay();
        thing();
        kinds();
        side();
        hangs();
        loads();
        lifts();
        doors();
        turn();
        days();
        floorThen();
        weighsThen();
        pull();
        meets();
        comes();
        strikes();
        still();
        door();
        level();
        take();
        hang();
        change();
        ballast();
        mustWeigh();
        bestKind();
        heaviest();
        two();
        draught();
        mean();
        whatIs();
        row();
        judge();
        clear();
        lots();
        image();
        on();
        count();
        beyondTheLastDay();
        refusalsChangeNothing();
        end();
    }

    private static void newObject() {
        HoistsAreShared x = new HoistsAreShared();
        for (int side = 0; side < 2; side++) {
            due(1, "FLOOR of " + side, x.side(side, 0), 10);
            due(1, "BALLAST of " + side, x.side(side, 1), 10);
            due(1, "WEIGHT of " + side, x.side(side, 2), 10);
            due(1, "THINGS ON " + side, x.side(side, 3), 0);
        }
        due(1, "DOORS", x.count(3), FIRST_DOORS);
        int[] zeros = {0, 1, 4, 5, 6, 7, 11, 12, 13, 14, 15, 16};
        for (int what : zeros) {
            due(1, "count(" + what + ")", x.count(what), 0);
        }
        HoistsAreShared y = new HoistsAreShared();
        y.loads(0, 3);
        y.lifts(4);
        due(1, "another object's BALLAST", x.side(0, 1), 10);
        due(1, "another object's FLOOR", x.count(2), 10);
    }

    private static void letter() {
        HoistsAreShared x = new HoistsAreShared();
        due(2, "the least letter", x.letter(0), 1);
        due(2, "the greatest letter", x.letter(255), 2);
        due(2, "below", x.letter(-1), -4);
        due(2, "far below", x.letter(Integer.MIN_VALUE), -4);
        due(2, "above", x.letter(256), -6);
        due(2, "far above", x.letter(Integer.MAX_VALUE), -6);
        due(2, "letters after refusals", x.count(7), 2);
        for (int i = 3; i <= 96; i++) {
            due(2, "letter " + i, x.letter('t'), i);
        }
        due(2, "the 97th", x.letter('t'), -6);
        due(2, "below while full", x.letter(-1), -4);
        due(2, "letters when full", x.count(7), 96);
        due(2, "REFUSALS -4", x.count(14), 3);
        due(2, "REFUSALS -6", x.count(16), 3);
        due(2, "the 96 letters are no HOIST", x.hoist(), -1000);
        due(2, "the next letter is the first", x.letter('t'), 1);
    }

    private static void hoistAnswers() {
        HoistsAreShared x = new HoistsAreShared();
        due(3, "all STATEMENTS", tell(x, "th50;tl31;tt22;h20;b012;b100;f07;d05;d03;n01;"), 10);
        due(3, "THINGS", x.count(0), 3);
        due(3, "h hung it", x.thing(2, 2), 0);
        due(3, "b", x.side(0, 1), 12);
        due(3, "b of the other", x.side(1, 1), 0);
        due(3, "d at a DOOR and at none", x.count(3), FIRST_DOORS & ~(1 << 5) | 1 << 3);
        due(3, "n", x.count(1), 1);
        // PULL: 12 + 6 + 3 less 0 + 8 is 13: three down from 7.
        due(3, "where it is then", x.count(2), 4);
        due(3, "letters are no more", x.count(7), 0);
        due(3, "a THING more behind those there", tell(x, "tw92;"), 1);
        due(3, "its KIND", x.thing(3, 0), 5);
        due(3, "its FIGURE", x.thing(3, 1), 9);
        due(3, "its place", x.thing(3, 2), 2);
        due(3, "its SINCE", x.thing(3, 3), 1);
        due(3, "h of one there before, told again", tell(x, "h00;n02;h00;"), 3);
        due(3, "SINCE the DAY in the text", x.thing(0, 3), 3);
        due(3, "a DOOR told twice in one text", tell(x, "d09;d09;d11;"), 3);
        due(3, "DOORS then", x.count(3), FIRST_DOORS & ~(1 << 5) | 1 << 3 | 1 << 11);
        due(3, "greatest numbers", tell(x, "b050;f20;n60;"), 3);
        due(3, "least numbers", tell(x, "b000;f00;n01;d00;d20;"), 5);
        due(3, "REFUSALS", x.count(11) + x.count(12) + x.count(13) + x.count(14) + x.count(16), 0);
        String kinds = "hltsbw";
        for (int kind = 0; kind < 6; kind++) {
            HoistsAreShared y = told("t" + kinds.charAt(kind) + "42;");
            due(3, "KIND of " + kinds.charAt(kind), y.thing(0, 0), kind);
            due(3, "FIGURE of it", y.thing(0, 1), 4);
        }
    }

    private static void brokenDue(String text, int place) {
        HoistsAreShared x = new HoistsAreShared();
        due(3, "broken '" + text + "'", tell(x, text), -1000 - place);
        due(3, "THINGS of broken '" + text + "'", x.count(0), 0);
        due(3, "letters of broken '" + text + "'", x.count(7), 0);
    }

    private static void hoistBroken() {
        brokenDue("", 0);
        brokenDue(";", 0);
        brokenDue("z", 0);
        brokenDue("T", 0);
        brokenDue("0", 0);
        brokenDue("t", 1);
        brokenDue("th", 2);
        brokenDue("th5", 3);
        brokenDue("th50", 4);
        brokenDue("th50 ;", 4);
        brokenDue("th500;", 4);
        brokenDue("th50;;", 5);
        brokenDue("th50;t", 6);
        brokenDue("th50;x", 5);
        brokenDue("tf50;", 1);
        brokenDue("t550;", 1);
        brokenDue("th;50", 2);
        brokenDue("tha0;", 2);
        brokenDue("th5/;", 3);
        brokenDue("th5:;", 3);
        brokenDue("h;", 1);
        brokenDue("h0;", 2);
        brokenDue("h000;", 3);
        brokenDue("b0;", 2);
        brokenDue("b01;", 3);
        brokenDue("b0100;", 4);
        brokenDue("b010", 4);
        brokenDue("f1;", 2);
        brokenDue("f100;", 3);
        brokenDue("f-1;", 1);
        brokenDue("d1;", 2);
        brokenDue("n;", 1);
        brokenDue("n1;", 2);
        brokenDue("n10", 3);
        // A letter that cannot go on is told before a number that is out of range, wherever both stand.
        brokenDue("f99;z", 4);
        brokenDue("f99;h00;n0", 10);
        HoistsAreShared x = new HoistsAreShared();
        spell(x, "th50;");
        x.letter(255);
        due(3, "a letter above 127", x.hoist(), -1005);
        x.letter(0);
        due(3, "the letter 0", x.hoist(), -1000);
        String full = "b010;".repeat(19);
        due(3, "95 letters", tell(x, full), 19);
        due(3, "96 letters, something lacks", tell(x, full + "t"), -1096);
        due(3, "96 letters, the last cannot go on", tell(x, full + ";"), -1095);
        due(3, "96 letters that are a HOIST", tell(x, "f10;".repeat(24)), 24);
    }

    private static void wrongDue(String text, int place) {
        HoistsAreShared x = new HoistsAreShared();
        due(3, "wrong '" + text + "'", tell(x, text), -2000 - place);
        due(3, "THINGS of wrong '" + text + "'", x.count(0), 0);
        due(3, "FLOOR of wrong '" + text + "'", x.count(2), 10);
        due(3, "DOORS of wrong '" + text + "'", x.count(3), FIRST_DOORS);
        due(3, "DAY of wrong '" + text + "'", x.count(1), 0);
        due(3, "BALLAST of wrong '" + text + "'", x.side(0, 1), 10);
        due(3, "letters of wrong '" + text + "'", x.count(7), 0);
        for (int what = 11; what <= 16; what++) {
            due(3, "REFUSALS of wrong '" + text + "'", x.count(what), 0);
        }
    }

    private static void hoistWrong() {
        wrongDue("th53;", 0);
        wrongDue("th59;", 0);
        wrongDue("h00;", 0);
        wrongDue("th00;h10;", 5);
        wrongDue("th00;h03;", 5);
        wrongDue("h00;th00;", 0);
        wrongDue("b200;", 0);
        wrongDue("b051;", 0);
        wrongDue("b099;", 0);
        wrongDue("f21;", 0);
        wrongDue("f99;", 0);
        wrongDue("d21;", 0);
        wrongDue("n00;", 0);
        wrongDue("n61;", 0);
        wrongDue("f03;d04;b020;n05;th50;f21;f22;", 22);
        wrongDue("th00;".repeat(9), 40);
        HoistsAreShared x = told("th00;".repeat(8));
        due(3, "no room for more", tell(x, "f03;th00;"), -2004);
        due(3, "FLOOR stays", x.count(2), 10);
        due(3, "THINGS stay", x.count(0), 8);
        due(3, "the last THING can be hung", tell(x, "h72;"), 1);
        due(3, "no THING 8", tell(x, "h82;"), -2000);
    }

    private static void hoistAtTheLastDay() {
        HoistsAreShared x = new HoistsAreShared();
        passDays(x, 960);
        due(3, "DAY above 999", tell(x, "n40;"), -2000);
        due(3, "DAY above 999 by two", tell(x, "f03;n39;n01;"), -2008);
        due(3, "DAY stays", x.count(1), 960);
        due(3, "FLOOR stays", x.count(2), 10);
        due(3, "DAY 999", tell(x, "n39;"), 1);
        due(3, "DAY then", x.count(1), 999);
        due(3, "no DAY more", tell(x, "n01;"), -2000);
    }

    private static void thing() {
        HoistsAreShared x = told("n04;ts71;");
        int[] want = {3, 7, 1, 4, 8};
        for (int what = 0; what < 5; what++) {
            due(4, "thing(0, " + what + ")", x.thing(0, what), want[what]);
        }
        due(4, "what 5", x.thing(0, 5), -2);
        due(4, "what -1", x.thing(0, -1), -2);
        due(4, "no THING 1", x.thing(1, 0), -1);
        due(4, "no THING -1", x.thing(-1, 0), -1);
        due(4, "no THING and no what", x.thing(1, 9), -1);
        due(4, "far out", x.thing(Integer.MAX_VALUE, Integer.MIN_VALUE), -1);
        x.days(1);
        due(4, "a SEASON on DAY 5", x.thing(0, 4), 24);
    }

    private static void kinds() {
        // All OFF, FIGURE 4, since DAY 0.
        HoistsAreShared x = told("th42;tl42;tt42;ts42;tb42;tw42;");
        int[][] rows = {
            {0, 5, 10, 5, 5, 13, 25},
            {1, 5, 10, 5, 5, 13, 25},
            {2, 5, 10, 6, 5, 13, 24},
            {4, 5, 10, 7, 5, 13, 23},
            {5, 5, 10, 7, 15, 13, 23},
            {9, 5, 10, 9, 15, 13, 21},
            {10, 5, 10, 10, 5, 13, 20},
            {39, 5, 10, 24, 15, 13, 6},
            {40, 5, 10, 25, 5, 13, 5},
            {42, 5, 10, 25, 5, 13, 5},
            {60, 5, 10, 25, 5, 13, 5},
        };
        for (int[] then : rows) {
            for (int kind = 0; kind < 6; kind++) {
                due(13, "KIND " + kind + " on DAY " + then[0], x.weighsThen(kind, then[0]), then[kind + 1]);
            }
        }
        HoistsAreShared y = told("tw92;tt92;tw02;");
        due(13, "a WISH of 9 weighs 0 at last", y.weighsThen(0, 40), 0);
        due(13, "a WISH of 9 one before", y.weighsThen(0, 39), 1);
        due(13, "a THOUGHT of 9 weighs 30 at last", y.weighsThen(1, 60), 30);
        due(13, "a WISH of 0 at first", y.weighsThen(2, 0), 29);
        y.days(5);
        due(4, "what a THOUGHT weighs", y.thing(1, 4), 12);
        y.hangs(1, 2);
        due(4, "a THOUGHT told OFF anew", y.thing(1, 4), 10);
        due(13, "g goes on OFF", y.weighsThen(1, 2), 11);
        y.turn(1, 5, 9);
        y.days(4);
        due(4, "turned into a WISH, SINCE stays", y.thing(1, 4), 18);
    }

    private static void side() {
        HoistsAreShared x = told("th50;tl31;th92;b012;b109;f08;");
        int[] one = {8, 12, 18, 1, 5, 3};
        int[] other = {12, 9, 17, 2, 15, 3};
        for (int what = 0; what < 6; what++) {
            due(5, "side(0, " + what + ")", x.side(0, what), one[what]);
            due(5, "side(1, " + what + ")", x.side(1, what), other[what]);
        }
        due(5, "what 6", x.side(0, 6), -2);
        due(5, "what -1", x.side(1, -1), -2);
        due(5, "no side 2", x.side(2, 0), -1);
        due(5, "no side -1", x.side(-1, 9), -1);
        x.lifts(0);
        due(5, "at a DOOR", x.side(0, 4), 0);
        due(5, "how far", x.side(0, 5), 0);
        due(5, "the other at a DOOR", x.side(1, 4), 20);
        x.lifts(18);
        due(5, "nearest above", x.side(0, 4), 20);
        due(5, "nearest below the other", x.side(1, 4), 0);
        int[] old = {0, 5, 15, 20};
        for (int floor : old) {
            x.doors(floor);
        }
        due(5, "no DOOR", x.side(0, 4), -9);
        due(5, "no DOOR: how far", x.side(1, 5), -9);
        x.doors(16);
        x.doors(20);
        due(5, "of two the lower", x.side(0, 4), 16);
        due(5, "how far", x.side(0, 5), 2);
        due(5, "the other's one DOOR", x.side(1, 4), 16);
        due(5, "how far the other", x.side(1, 5), 14);
        due(5, "REFUSALS -2", x.count(12), 2);
        due(5, "REFUSALS -1", x.count(11), 2);
        HoistsAreShared far = told("d00;d05;d15;f00;");
        due(5, "20 away", far.side(0, 4), 20);
        due(5, "20 away: how far", far.side(0, 5), 20);
        HoistsAreShared s = told("n04;ts30;");
        due(5, "WEIGHT now, not on the next DAY", s.side(0, 2), 14);
    }

    private static void hangs() {
        HoistsAreShared x = told("th50;");
        due(6, "to the other", x.hangs(0, 1), 0);
        due(6, "where it is", x.thing(0, 2), 1);
        x.days(3);
        due(6, "where it is already", x.hangs(0, 1), 1);
        due(6, "SINCE this DAY all the same", x.thing(0, 3), 3);
        due(6, "OFF", x.hangs(0, 2), 1);
        due(6, "again ON", x.hangs(0, 0), 2);
        due(6, "where 3", x.hangs(0, 3), -2);
        due(6, "where -1", x.hangs(0, -1), -2);
        due(6, "no THING 1", x.hangs(1, 0), -1);
        due(6, "no THING, no where", x.hangs(-1, 7), -1);
        due(6, "it stays", x.thing(0, 2), 0);
    }

    private static void loads() {
        HoistsAreShared x = new HoistsAreShared();
        due(7, "50", x.loads(0, 50), 10);
        due(7, "0", x.loads(0, 0), 50);
        due(7, "other", x.loads(1, 7), 10);
        due(7, "then", x.side(0, 1), 0);
        due(7, "the other's", x.side(1, 1), 7);
        due(7, "-1", x.loads(0, -1), -4);
        due(7, "51", x.loads(1, 51), -6);
        due(7, "no side", x.loads(2, -1), -1);
        due(7, "no side -1", x.loads(-1, 51), -1);
        due(7, "it stays", x.loads(1, 1), 7);
    }

    private static void lifts() {
        HoistsAreShared x = new HoistsAreShared();
        due(8, "0", x.lifts(0), 10);
        due(8, "20", x.lifts(20), 0);
        due(8, "the other then", x.side(1, 0), 0);
        due(8, "21", x.lifts(21), -1);
        due(8, "-1", x.lifts(-1), -1);
        due(8, "it stays", x.lifts(3), 20);
        due(8, "the other is at 17", x.side(1, 0), 17);
    }

    private static void doors() {
        HoistsAreShared x = new HoistsAreShared();
        due(9, "a new one", x.doors(3), 1);
        due(9, "bits", x.count(3), FIRST_DOORS | 8);
        due(9, "none again", x.doors(3), 0);
        due(9, "the first ones can go", x.doors(20), 0);
        due(9, "and come", x.doors(20), 1);
        due(9, "0 goes", x.doors(0), 0);
        due(9, "bits then", x.count(3), FIRST_DOORS & ~1);
        due(9, "21", x.doors(21), -1);
        due(9, "-1", x.doors(-1), -1);
        due(9, "32", x.doors(32), -1);
    }

    private static void turn() {
        HoistsAreShared x = told("th50;");
        x.days(2);
        due(10, "a HAT of 5", x.turn(0, 5, 9), 5);
        due(10, "a WISH of 9", x.turn(0, 1, 0), 59);
        due(10, "KIND", x.thing(0, 0), 1);
        due(10, "FIGURE", x.thing(0, 1), 0);
        due(10, "SINCE stays", x.thing(0, 3), 0);
        due(10, "where stays", x.thing(0, 2), 0);
        due(10, "KIND 6", x.turn(0, 6, -1), -2);
        due(10, "KIND -1", x.turn(0, -1, 10), -2);
        due(10, "FIGURE -1", x.turn(0, 0, -1), -4);
        due(10, "FIGURE 10", x.turn(0, 0, 10), -6);
        due(10, "no THING", x.turn(1, 6, 10), -1);
        due(10, "it stays", x.turn(0, 2, 2), 10);
    }

    private static void days() {
        // PULL 23 is 5 FLOORS, 3 at most.
        HoistsAreShared x = told("tb90;");
        due(11, "three down", x.days(1), 7);
        due(11, "held at 0", x.days(3), 0);
        due(11, "DAY", x.count(1), 4);
        due(11, "0", x.days(0), -4);
        due(11, "61", x.days(61), -6);
        due(11, "far above", x.days(Integer.MAX_VALUE), -6);
        due(11, "60", x.days(60), 0);
        x.hangs(0, 1);
        due(11, "up", x.days(1), 3);
        due(11, "held at 20", x.days(60), 20);
        int[][] speeds = {{13, 10}, {14, 9}, {17, 9}, {18, 8}, {21, 8}, {22, 7}, {50, 7}, {7, 10}, {6, 11}, {3, 11}, {2, 12}, {0, 12}};
        for (int[] speed : speeds) {
            HoistsAreShared y = new HoistsAreShared();
            y.loads(0, speed[0]);
            due(11, "BALLAST " + speed[0], y.days(1), speed[1]);
        }
        // A SEASON weighs 4 until DAY 4, 12 on DAY 5: that DAY's PULL is the one of the new DAY.
        HoistsAreShared s = told("ts30;b007;n04;");
        due(11, "a SEASON at first", s.count(2), 10);
        due(11, "a SEASON by the new DAY", s.days(1), 8);
        HoistsAreShared z = new HoistsAreShared();
        passDays(z, 990);
        due(11, "DAY above 999", z.days(10), -6);
        due(11, "DAY 999", z.days(9), 10);
        due(11, "no more", z.days(1), -6);
        due(11, "DAY then", z.count(1), 999);
    }

    private static void floorThen() {
        HoistsAreShared x = told("tb90;");
        int[] want = {10, 7, 4, 1, 0, 0};
        for (int n = 0; n < want.length; n++) {
            due(12, "the one behind " + n, x.floorThen(0, n), want[n]);
            due(12, "the other behind " + n, x.floorThen(1, n), 20 - want[n]);
        }
        due(12, "60", x.floorThen(0, 60), 0);
        due(12, "in mind alone", x.count(2), 10);
        due(12, "DAY stays", x.count(1), 0);
        due(12, "-1", x.floorThen(0, -1), -4);
        due(12, "61", x.floorThen(1, 61), -6);
        due(12, "no side", x.floorThen(2, 61), -1);
        due(12, "no side -1", x.floorThen(-1, -1), -1);
    }

    private static void weighsThen() {
        HoistsAreShared x = told("tt50;");
        due(13, "0", x.weighsThen(0, 0), 6);
        due(13, "60", x.weighsThen(0, 60), 26);
        due(13, "-1", x.weighsThen(0, -1), -4);
        due(13, "61", x.weighsThen(0, 61), -6);
        due(13, "no THING", x.weighsThen(1, -1), -1);
        due(13, "no THING -1", x.weighsThen(-1, 61), -1);
    }

    private static void pull() {
        HoistsAreShared x = told("tt50;tw51;");
        // 16 less 34; g by 2 comes to the one and goes from the other.
        due(14, "now", x.pull(0), -18);
        due(14, "behind 1", x.pull(1), -18);
        due(14, "behind 2", x.pull(2), -16);
        due(14, "behind 60", x.pull(60), 22);
        due(14, "-1", x.pull(-1), 1000000004);
        due(14, "61", x.pull(61), 1000000006);
        due(14, "REFUSALS -4", x.count(14), 1);
        due(14, "REFUSALS -6", x.count(16), 1);
        x.hangs(0, 2);
        due(14, "OFF pulls none", x.pull(0), -24);
    }

    /** It is held at 20 until DAY 40, then goes one down on DAYS 0 .. 4 of each 10 alone: at 9 on DAY 60, at 8 on 61. */
    private static HoistsAreShared lateGoer() {
        return told("tt00;ts01;b000;b116;f20;");
    }

    private static void meets() {
        HoistsAreShared x = new HoistsAreShared();
        due(15, "at once", x.meets(), 0);
        x.lifts(12);
        due(15, "never", x.meets(), -9);
        x.loads(0, 14);
        due(15, "one a DAY", x.meets(), 2);
        x.loads(0, 22);
        due(15, "three a DAY pass it by", x.meets(), -9);
        // A THOUGHT of 0 (1 ON the one side): PULL 1 at first, 4 behind 6 DAYS: there it goes down by 1.
        HoistsAreShared y = told("tt00;f11;");
        due(15, "by a THOUGHT", y.meets(), 6);
        HoistsAreShared z = lateGoer();
        due(15, "the tenth DAY it goes", z.meets(), 54);
    }

    private static void comes() {
        HoistsAreShared x = told("tb90;");
        due(16, "7", x.comes(0, 7), 1);
        due(16, "8 is passed by", x.comes(0, 8), -9);
        due(16, "0", x.comes(0, 0), 4);
        due(16, "the other at 20", x.comes(1, 20), 4);
        due(16, "the other at 13", x.comes(1, 13), 1);
        due(16, "the other at 7", x.comes(1, 7), -9);
        due(16, "at once", x.comes(1, 10), 0);
        due(16, "no side", x.comes(2, 0), -1);
        due(16, "no FLOOR", x.comes(0, 21), -1);
        due(16, "no FLOOR -1", x.comes(0, -1), -1);
        due(16, "neither", x.comes(-1, 21), -1);
        due(16, "REFUSALS -1", x.count(11), 4);
        // A SEASON of 1 (2, then 6): PULL 4 on DAYS 5 .. 9 of each 10: one down a DAY of these; 20 such are 4 tens.
        HoistsAreShared y = told("ts10;b008;f20;");
        due(16, "19 on DAY 5", y.comes(0, 19), 5);
        due(16, "15 on DAY 9", y.comes(0, 15), 9);
        due(16, "14 on DAY 15", y.comes(0, 14), 15);
        due(16, "0 on DAY 39", y.comes(0, 0), 39);
        HoistsAreShared z = lateGoer();
        due(16, "behind 60", z.comes(0, 9), 60);
        due(16, "the other behind 60", z.comes(1, 11), 60);
        due(16, "behind 61", z.comes(0, 8), -9);
        z.days(1);
        due(16, "behind 61 less 1", z.comes(0, 8), 60);
    }

    private static void strikes() {
        HoistsAreShared x = told("tb90;");
        due(17, "at 0", x.strikes(0), 4);
        x.hangs(0, 1);
        due(17, "at 20", x.strikes(0), 4);
        x.hangs(0, 2);
        due(17, "never", x.strikes(0), -9);
        x.lifts(20);
        due(17, "at once", x.strikes(0), 0);
        x.lifts(0);
        due(17, "at once at 0", x.strikes(0), 0);
        // Two THOUGHTS, one 2 DAYS older: from 40 DAYS on PULL is 1 more, 4 on the light DAYS of the SEASON alone,
        // which are behind 40, 41, 42, 48 .. 52, 58, 59, 60, 61: the eleventh is behind 60.
        HoistsAreShared late = told("tt01;n02;tt00;ts01;b015;f11;");
        due(17, "behind 60", late.strikes(0), 60);
        late.lifts(12);
        due(17, "behind 61", late.strikes(0), -9);
        late.lifts(9);
        due(17, "the ninth", late.strikes(0), 58);
        due(17, "what 2", x.strikes(2), -2);
        due(17, "what -1", x.strikes(-1), -2);
    }

    private static void still() {
        HoistsAreShared x = told("tb90;");
        due(17, "held at 0", x.strikes(1), 4);
        x.hangs(0, 2);
        due(17, "at once", x.strikes(1), 0);
        // A SEASON goes on DAYS 5 .. 9 of each 10 until 0 on DAY 39; between them are 5 DAYS without.
        HoistsAreShared y = told("ts10;b008;f20;");
        due(17, "behind the SEASON's last", y.strikes(1), 39);
        // Twice as low: it is at 0 behind DAY 19.
        y.lifts(10);
        due(17, "behind the SEASON's last from 10", y.strikes(1), 19);
        // A SEASON by turns: PULL 4 up on DAYS 0 .. 4, 4 down on DAYS 5 .. 9, never still.
        HoistsAreShared z = told("ts30;b002;");
        due(17, "PULL on DAY 0", z.pull(0), -4);
        due(17, "PULL on DAY 5", z.pull(5), 4);
        due(17, "never still", z.strikes(1), -9);
        // A THOUGHT of 0: with PULL 4 on DAY 10 it goes on the tenth DAY, with BALLAST 1 less two DAYS later.
        HoistsAreShared w = told("tt00;b008;");
        due(17, "PULL on DAY 9", w.pull(9), 3);
        due(17, "PULL on DAY 10", w.pull(10), 4);
        due(17, "9 DAYS are not 10: held at 0", w.strikes(1), w.strikes(0));
        w.loads(0, 7);
        due(17, "11 DAYS are", w.strikes(1), 0);
        // It goes by turns five up and five down until 40 DAYS on, then down alone, behind 40 .. 44, 50 .. 54 and 60.
        HoistsAreShared late = told("n03;tt01;n02;tt00;ts30;b003;f10;");
        due(17, "held from behind 60 on", late.strikes(1), 60);
        late.lifts(11);
        due(17, "held from behind 61 on", late.strikes(1), -9);
    }

    private static void door() {
        HoistsAreShared x = told("b014;");
        due(18, "the one at 5", x.door(0), 5);
        due(18, "the other at 15", x.door(1), 5);
        x.doors(5);
        due(18, "the one at 0", x.door(0), 10);
        due(18, "the other still at 15", x.door(1), 5);
        x.doors(10);
        due(18, "at once", x.door(0), 0);
        due(18, "no side", x.door(2), -1);
        due(18, "no side -1", x.door(-1), -1);
        HoistsAreShared y = told("d00;d05;d15;d20;");
        due(18, "no DOOR", y.door(0), -9);
        HoistsAreShared z = new HoistsAreShared();
        due(18, "none comes", z.door(1), -9);
        HoistsAreShared late = lateGoer();
        tell(late, "d00;d05;d15;d20;d09;");
        due(18, "behind 60", late.door(0), 60);
        due(18, "the other when the one is at 11", late.door(1), 53);
        tell(late, "d09;d08;");
        due(18, "behind 61", late.door(0), -9);
    }

    private static void level() {
        HoistsAreShared x = told("b014;f12;");
        due(19, "0", x.level(0), 0);
        due(19, "1", x.level(1), 0);
        due(19, "2", x.level(2), 1);
        due(19, "60", x.level(60), 1);
        due(19, "-1", x.level(-1), -4);
        due(19, "61", x.level(61), -6);
        HoistsAreShared y = new HoistsAreShared();
        due(19, "all DAYS 0 .. 60", y.level(60), 61);
    }

    private static void take() {
        HoistsAreShared x = told("tb90;th31;tb90;");
        // PULL 42; without THING 1 it is 46, without 0 or 2 it is 19: all of these go three a DAY.
        due(20, "none is nearer on DAY 1", x.take(1), -9);
        HoistsAreShared y = told("th30;th70;th71;");
        // PULL 4. Without 0: 0. Without 1: -4. Without 2: 12.
        due(20, "level by 0", y.take(3), 0);
        due(20, "behind none all is as it is", y.take(0), -9);
        y.turn(0, 0, 7);
        // PULL 8; without 0 or 1: 0.
        due(20, "of several the least", y.take(30), 0);
        y.hangs(0, 2);
        due(20, "level already", y.take(5), -9);
        y.hangs(2, 2);
        due(20, "OFF is not taken", y.take(5), 1);
        due(20, "-1", y.take(-1), -4);
        due(20, "31", y.take(31), -6);
        HoistsAreShared z = told("th30;tb92;");
        due(20, "nothing is taken in truth", z.take(5), 0);
        due(20, "it is ON", z.thing(0, 2), 0);
        // From 12: PULL 0. Without the HAT of 3 ON the other one, 4: two down behind 2 DAYS.
        HoistsAreShared u = told("th30;th31;f12;");
        due(20, "what brings the one down", u.take(2), 1);
        due(20, "what is nearer, not the same", u.take(4), -9);
    }

    private static void hang() {
        HoistsAreShared x = told("th32;tl12;b014;");
        // PULL 4; either weighs 4: ON the other it is 0.
        due(21, "of several the least", x.hang(3), 1);
        due(21, "behind none", x.hang(0), -9);
        x.hangs(0, 0);
        // PULL 8 by now; the LEDGER ON the other makes it 4: from 10 three DAYS to 7.
        due(21, "the other THING", x.hang(3), 11);
        x.loads(0, 2);
        // PULL -4: ON the one side it is 0.
        due(21, "ON the one side", x.hang(3), 10);
        due(21, "-1", x.hang(-1), -4);
        due(21, "31", x.hang(31), -6);
        due(21, "it is OFF still", x.thing(1, 2), 2);
        // A THOUGHT OFF for 20 DAYS weighs 14; hung now it weighs 4.
        HoistsAreShared y = told("tt32;n20;b014;");
        due(21, "it weighs 14 OFF", y.thing(0, 4), 14);
        due(21, "at rest", y.count(2), 10);
        due(21, "hung SINCE now", y.hang(1), 1);
    }

    private static void change() {
        HoistsAreShared x = new HoistsAreShared();
        due(22, "none of none", x.change(), 0);
        x.loads(0, 13);
        due(22, "PULL 3", x.change(), 0);
        x.loads(0, 14);
        due(22, "PULL 4", x.change(), -9);
        x.loads(0, 6);
        due(22, "PULL -4", x.change(), -9);
        // PULL 20: 10 less on the one side: THINGS 1 and 2 (4 and 6), 0 alone (10), 3 alone (10).
        HoistsAreShared y = told("th90;th30;th50;th90;b000;");
        due(22, "fewest, of several the least", y.change(), 1);
        y.hangs(0, 2);
        // PULL 10: 1 (2), 2 (-2), 3 (-10).
        due(22, "OFF is not hung", y.change(), 2);
        HoistsAreShared z = told("th30;th30;th30;th30;b001;");
        // PULL 7: one makes -1.
        due(22, "one of four", z.change(), 1);
        z.loads(0, 10);
        // PULL 16: two make 0.
        due(22, "two of four", z.change(), 3);
        // A THOUGHT ON for 20 DAYS weighs 14, hung on the other side 4: PULL 18 becomes 0.
        HoistsAreShared w = told("tt30;n20;b014;");
        due(22, "PULL of an old THOUGHT", w.pull(0), 18);
        due(22, "it is hung SINCE now", w.change(), 1);
        due(22, "where it is", w.thing(0, 2), 0);
        due(22, "its SINCE", w.thing(0, 3), 0);
        HoistsAreShared v = told("tt31;n20;b114;");
        due(22, "an old THOUGHT ON the other", v.change(), 1);
        // PULL 8 + 11: each takes 2 of it, 3 is left behind all eight; with 9, behind seven.
        HoistsAreShared all = told("th00;".repeat(8) + "b021;");
        due(22, "all eight", all.change(), 255);
        all.loads(0, 19);
        due(22, "seven", all.change(), 127);
        // A SEASON on DAY 4 weighs 4, on DAY 5 it would weigh 12.
        HoistsAreShared s = told("n04;ts30;b009;");
        due(22, "PULL now, not on the next DAY", s.change(), 0);
        s.loads(0, 14);
        due(22, "what it weighs now", s.change(), 1);
    }

    private static void ballast() {
        HoistsAreShared x = new HoistsAreShared();
        due(23, "the least that is level", x.ballast(0, 5, 0), 7);
        due(23, "how near", x.ballast(0, 5, 1), 0);
        due(23, "behind none the least", x.ballast(1, 0, 0), 0);
        x.lifts(13);
        // Three down: PULL 12 or more behind 1 DAY: 22. One a DAY behind 3: 14.
        due(23, "three at once", x.ballast(0, 1, 0), 22);
        due(23, "one a DAY", x.ballast(0, 3, 0), 14);
        // 11 and 9 are both 2 apart: the lighter one.
        due(23, "two likewise near", x.ballast(0, 2, 0), 14);
        due(23, "how near then", x.ballast(0, 2, 1), 2);
        // The other side is the lighter one then: 20 less PULL.
        due(23, "the other's", x.ballast(1, 3, 0), 3);
        x.lifts(20);
        due(23, "nearest of all", x.ballast(0, 1, 0), 22);
        due(23, "how near of all", x.ballast(0, 1, 1), 14);
        due(23, "no side", x.ballast(2, -1, 2), -1);
        due(23, "-1", x.ballast(0, -1, 2), -4);
        due(23, "31", x.ballast(0, 31, 2), -6);
        due(23, "what 2", x.ballast(0, 30, 2), -2);
        due(23, "what -1", x.ballast(0, 30, -1), -2);
        due(23, "it stays", x.side(0, 1), 10);
        // A HAT of 9 ON the one: PULL is 10 more, and below 4 with BALLAST 0 of the one or 17 of the other.
        HoistsAreShared y = told("th90;");
        due(23, "by what hangs there", y.ballast(0, 3, 0), 0);
        due(23, "the other's by what hangs there", y.ballast(1, 3, 0), 17);
        // The other weighs 75: with no BALLAST the one comes down from 20.
        HoistsAreShared z = told("tw01;tw01;b117;f20;");
        due(23, "with any held at 20", z.ballast(0, 1, 1), 20);
        due(23, "with any: the least", z.ballast(0, 1, 0), 0);
        // The other weighs 57: PULL is -8 with 49, two up, and -7 with 50, one up.
        HoistsAreShared w = told("tw01;b128;f10;");
        due(23, "the greatest", w.ballast(0, 1, 0), 50);
        due(23, "the greatest: how near", w.ballast(0, 1, 1), 2);
    }

    private static void mustWeigh() {
        HoistsAreShared x = told("th00;d10;");
        // Now a DOOR at 10, where it stays with PULL below 4: FIGURES 0 .. 2.
        due(24, "it stays at a DOOR", x.mustWeigh(0, 0, 3), 0);
        x.doors(10);
        // To 5: 5 DAYS at one: FIGURE 3.
        due(24, "one a DAY", x.mustWeigh(0, 0, 5), 3);
        due(24, "the other at 15", x.mustWeigh(0, 1, 5), 3);
        // Behind 4: no five; behind 1: none.
        due(24, "none", x.mustWeigh(0, 0, 1), -9);
        x.doors(8);
        due(24, "two at once", x.mustWeigh(0, 0, 1), 7);
        due(24, "the other not there", x.mustWeigh(0, 1, 1), -9);
        x.doors(12);
        due(24, "the other at 12", x.mustWeigh(0, 1, 1), 7);
        x.hangs(0, 2);
        due(24, "OFF it weighs nothing", x.mustWeigh(0, 0, 5), -9);
        x.doors(10);
        due(24, "OFF at a DOOR", x.mustWeigh(0, 0, 5), 0);
        due(24, "no THING", x.mustWeigh(1, 0, -1), -1);
        due(24, "no side", x.mustWeigh(0, 2, 31), -1);
        due(24, "-1", x.mustWeigh(0, 0, -1), -4);
        due(24, "31", x.mustWeigh(0, 0, 31), -6);
        due(24, "FIGURE stays", x.thing(0, 1), 0);
    }

    private static void bestKind() {
        HoistsAreShared x = told("th30;b006;");
        // BALLAST lacks 4, the HAT weighs 4.
        due(25, "level as it is", x.bestKind(0, 2, 0), 0);
        due(25, "how near", x.bestKind(0, 2, 1), 0);
        x.loads(0, 0);
        // Lacks 10: HAT 4 is -6, LEDGER 8 is -2, BOOTS 11.
        due(25, "a LEDGER", x.bestKind(0, 4, 0), 1);
        x.turn(0, 0, 9);
        // HAT 10: level.
        due(25, "of several the least", x.bestKind(0, 4, 0), 0);
        x.turn(0, 0, 6);
        x.loads(1, 27);
        // Lacks 27: LEDGER 14 (-13), BOOTS 17 (-10: 2 a DAY), WISH 23 (-4: one a DAY).
        due(25, "a WISH", x.bestKind(0, 1, 0), 5);
        due(25, "how near a WISH", x.bestKind(0, 1, 1), 2);
        x.hangs(0, 2);
        due(25, "OFF: the least", x.bestKind(0, 1, 0), 0);
        due(25, "OFF: how near", x.bestKind(0, 1, 1), 6);
        due(25, "no THING", x.bestKind(1, -1, 2), -1);
        due(25, "-1", x.bestKind(0, -1, 2), -4);
        due(25, "31", x.bestKind(0, 31, 2), -6);
        due(25, "what 2", x.bestKind(0, 30, 2), -2);
        due(25, "what -1", x.bestKind(0, 30, -1), -2);
        due(25, "KIND stays", x.thing(0, 0), 0);
    }

    private static void heaviest() {
        HoistsAreShared x = told("th50;tl20;th52;th02;ts01;n01;tt52;tw52;");
        // 6, 6, 6, 1, 1, 6, 24
        due(26, "HEAVIEST, OFF too", x.heaviest(0), 6);
        due(26, "LIGHTEST, of several the least", x.heaviest(1), 3);
        due(26, "GROWS", x.heaviest(3), 0);
        due(26, "SHRINKS", x.heaviest(4), 0);
        x.turn(6, 0, 5);
        due(26, "HEAVIEST, of several the least", x.heaviest(0), 0);
        x.turn(6, 5, 5);
        x.days(1);
        due(26, "a THOUGHT grows to an even g", x.heaviest(3), 1 << 5);
        due(26, "a WISH shrinks then", x.heaviest(4), 1 << 6);
        x.days(2);
        due(26, "DAY 4: the SEASON grows too", x.heaviest(3), 1 << 4 | 1 << 5);
        x.days(5);
        due(26, "DAY 9: the SEASON shrinks", x.heaviest(4), 1 << 4);
        HoistsAreShared y = new HoistsAreShared();
        due(26, "no HEAVIEST", y.heaviest(0), -9);
        due(26, "no LIGHTEST", y.heaviest(1), -9);
        due(26, "none OPEN", y.heaviest(2), 0);
        y.lifts(5);
        due(26, "both OPEN", y.heaviest(2), 3);
        y.doors(5);
        due(26, "the other OPEN", y.heaviest(2), 2);
        y.lifts(15);
        due(26, "the one OPEN", y.heaviest(2), 1);
        due(26, "what 5", y.heaviest(5), -2);
        due(26, "what -1", y.heaviest(-1), -2);
    }

    private static void two() {
        // n 0: nothing moves, to hold is 1 more: both hold.
        HoistsAreShared x = told("th90;th91;th92;");
        due(27, "both hold on", x.two(0, 1, 0), 11);
        // One DAY: held both 10; 0 let go alone: PULL -10: 2 up. Each would let go; both let go: 10 each.
        // Pair 00: 10 each; to hold: 8 and 1: less. So 00.
        due(27, "both let go", x.two(0, 1, 1), 0);
        // Both ON one side: PULL 4 by each: held both 8, one 9 (10 with holding), none 10: 00: 10 each, to hold: 9 and 1.
        HoistsAreShared y = told("th30;th30;");
        due(27, "even: the first pair", y.two(0, 1, 1), 0);
        // Two DAYS: each one that holds costs 2 FLOORS for 1: 00.
        due(27, "two DAYS", y.two(1, 0, 2), 0);
        // A light one costs nothing: it holds, the heavy one lets go.
        HoistsAreShared z = told("th00;tb90;");
        due(27, "the first holds", z.two(0, 1, 3), 10);
        due(27, "the second holds", z.two(1, 0, 3), 1);
        due(27, "none is let go in truth", z.side(0, 3), 3);
        due(27, "one twice", x.two(0, 0, -1), -1);
        due(27, "no THING", x.two(0, 3, -1), -1);
        due(27, "no THING first", x.two(-1, 0, 31), -1);
        due(27, "-1 before OFF", x.two(0, 2, -1), -4);
        due(27, "31 before OFF", x.two(0, 2, 31), -6);
        due(27, "the second is OFF", x.two(0, 2, 30), -3);
        due(27, "the first is OFF", x.two(2, 0, 30), -3);
        due(27, "REFUSALS -3", x.count(13), 2);
        // PULL 1 by 0 and 3 by 1, 2 more BALLAST: held both, one side: 6 down 1; by 0 alone 3: 0; by 1 alone 5: 1; none: 0.
        // First: 00 -> 10, 10 -> 11; 01 -> 9, 11 -> 10: holds. Second: 10 -> 10, 11 -> 10: even, so 10 stands.
        HoistsAreShared w = told("th00;th20;b012;");
        due(27, "even is no more", w.two(0, 1, 1), 10);
        // Opposed: 0 (4 ON the one side), 1 (4 ON the other), BALLAST 14 to 10, n 1.
        // 11: 4 -> 9; 10: 8 -> 8; 01: 0 -> 10; 00: 4 -> 9. First: 11 -> 10, 01 -> 10; 10 -> 9, 00 -> 9: even always.
        // Second (20 less, and 1): 11 -> 12, 10 -> 12; 01 -> 11, 00 -> 11: even always. So 00.
        HoistsAreShared v = told("th30;th31;b014;");
        due(27, "even always", v.two(0, 1, 1), 0);
    }

    private static void draught() {
        HoistsAreShared x = new HoistsAreShared();
        due(28, "no DAY, at 10", x.draught(0, 2, 10, 0), 1);
        due(28, "no DAY, at 10: below the line", x.draught(0, 2, 10, 1), 1);
        due(28, "no DAY, not at 11", x.draught(0, 2, 11, 0), 0);
        due(28, "0 by 1", x.draught(2, 20, 15, 1), 1);
        // Each DRAUGHT is two up. 12 or higher behind 2 DAYS, odds 1 in 3: 1 less 4 by 9.
        due(28, "5 by 9, above", x.draught(2, 3, 12, 0), 5);
        due(28, "5 by 9, below", x.draught(2, 3, 12, 1), 9);
        due(28, "14: 1 by 9", x.draught(2, 3, 14, 1), 9);
        due(28, "13: 1 by 9 too", x.draught(2, 3, 13, 0), 1);
        due(28, "15: none", x.draught(2, 3, 15, 0), 0);
        due(28, "least terms", x.draught(2, 4, 12, 0), 7);
        due(28, "least terms, below", x.draught(2, 4, 12, 1), 16);
        // 1 in 2, three DAYS, at least two: 4 by 8.
        due(28, "1 by 2", x.draught(3, 2, 14, 0), 1);
        due(28, "1 by 2, below", x.draught(3, 2, 14, 1), 2);
        // 7 DAYS of 20: at least one is 1 less 19^7 by 20^7.
        due(28, "20^7 less 19^7", x.draught(7, 20, 12, 0), 1280000000L - 893871739L);
        due(28, "20^7", x.draught(7, 20, 12, 1), 1280000000L);
        due(28, "all is at 0 or higher", x.draught(7, 20, 0, 0), 1);
        // All five or more of seven DAYS lead to 20: 21 + 7 + 1 by 128.
        due(28, "held at 20", x.draught(7, 2, 20, 0), 29);
        // PULL 8: two down, or as it is with a DRAUGHT.
        HoistsAreShared y = told("b018;");
        due(28, "down without", y.draught(1, 5, 10, 1), 5);
        due(28, "down without, above", y.draught(1, 5, 10, 0), 1);
        due(28, "8 or higher", y.draught(1, 5, 8, 0), 1);
        // PULL 5 by 4 is 1 down; 3 up by 4 is none.
        HoistsAreShared z = told("b015;");
        due(28, "3 up is none", z.draught(1, 5, 11, 0), 0);
        due(28, "3 up stays", z.draught(1, 5, 10, 1), 5);
        due(28, "n -1", x.draught(-1, 21, 21, 2), LONG_REFUSED + 4);
        due(28, "v -1", x.draught(8, 2, -1, 2), LONG_REFUSED + 4);
        due(28, "t 1", x.draught(8, 1, 21, 2), LONG_REFUSED + 4);
        due(28, "n 8", x.draught(8, 2, 0, 2), LONG_REFUSED + 6);
        due(28, "t 21", x.draught(0, 21, 0, 2), LONG_REFUSED + 6);
        due(28, "v 21", x.draught(0, 2, 21, 2), LONG_REFUSED + 6);
        due(28, "part 2", x.draught(7, 20, 20, 2), LONG_REFUSED + 2);
        due(28, "part -1", x.draught(0, 2, 0, -1), LONG_REFUSED + 2);
        due(28, "REFUSALS -2", x.count(12), 2);
        due(28, "REFUSALS -4", x.count(14), 3);
        due(28, "REFUSALS -6", x.count(16), 3);
        due(28, "FLOOR stays", x.count(2), 10);
    }

    private static void mean() {
        HoistsAreShared x = new HoistsAreShared();
        due(29, "of none, above", x.mean(0), 0);
        due(29, "of none, below", x.mean(1), 1);
        tell(x, "th50;th71;th32;");
        due(29, "18 by 3, above", x.mean(0), 6);
        due(29, "18 by 3, below", x.mean(1), 1);
        x.turn(0, 0, 4);
        due(29, "17 by 3, above", x.mean(0), 17);
        due(29, "17 by 3, below", x.mean(1), 3);
        due(29, "part 2", x.mean(2), LONG_REFUSED + 2);
        due(29, "part -1", x.mean(-1), LONG_REFUSED + 2);
        due(29, "REFUSALS -2", x.count(12), 2);
        HoistsAreShared y = told("tw92;tw92;n40;");
        due(29, "0 by 2, above", y.mean(0), 0);
        due(29, "0 by 2, below", y.mean(1), 1);
    }

    private static void whatIs() {
        HoistsAreShared x = told("th30;");
        due(30, "an empty ROW: all KINDS", x.whatIs(0, 0), 63);
        due(30, "an empty ROW: all FIGURES", x.whatIs(0, 1), 1023);
        // PULL 4: one down a DAY.
        fillRow(x, 10, 9, 8);
        // HAT 4, LEDGER 8, THOUGHT 4, 5, SEASON 4, BOOTS 11 (2), WISH 26.
        due(30, "KINDS", x.whatIs(0, 0), 1 | 4 | 8);
        due(30, "FIGURES 3 .. 6", x.whatIs(0, 1), 8 | 16 | 32 | 64);
        due(30, "the ROW stays", x.count(6), 3);
        fillRow(x, 7, 6, 4);
        // DAY 5: SEASON 12 (3 down), THOUGHT 6; neither is 2. None.
        due(30, "no KIND", x.whatIs(0, 0), 0);
        due(30, "no FIGURE", x.whatIs(0, 1), 0);
        x.clear();
        fillRow(x, 10, 9, 8, 7, 6, 3);
        due(30, "a SEASON", x.whatIs(0, 0), 8);
        x.clear();
        fillRow(x, 9);
        due(30, "not so at DAY 0", x.whatIs(0, 1), 0);
        x.clear();
        fillRow(x, 99);
        due(30, "no FLOOR", x.whatIs(0, 0), 0);
        x.clear();
        fillRow(x, 10);
        due(30, "DAY 0 alone", x.whatIs(0, 0), 63);
        due(30, "what 2", x.whatIs(0, 2), -2);
        due(30, "what -1", x.whatIs(0, -1), -2);
        due(30, "no THING", x.whatIs(1, 2), -1);
        due(30, "no THING -1", x.whatIs(-1, 0), -1);
        x.hangs(0, 1);
        x.clear();
        fillRow(x, 10, 12);
        due(30, "ON the other: 8 or 11", x.whatIs(0, 0), 2 | 16);
        x.hangs(0, 2);
        due(30, "OFF: none", x.whatIs(0, 0), 0);
        due(30, "it is a HAT of 3 still", x.turn(0, 0, 3), 3);
    }

    private static void row() {
        HoistsAreShared x = new HoistsAreShared();
        due(31, "0", x.row(0), 1);
        due(31, "99", x.row(99), 2);
        due(31, "-1", x.row(-1), -4);
        due(31, "100", x.row(100), -6);
        due(31, "how many", x.count(6), 2);
        for (int i = 3; i <= 16; i++) {
            due(31, "number " + i, x.row(i), i);
        }
        due(31, "the 17th", x.row(1), -6);
        due(31, "-1 while full", x.row(-1), -4);
        due(31, "how many then", x.count(6), 16);
    }

    private static void judge() {
        HoistsAreShared x = told("th50;tl31;tt22;");
        due(32, "of none", x.judge(), -9);
        fillRow(x, 6, 8, 3);
        due(32, "all so", x.judge(), -9);
        due(32, "the ROW has none then", x.count(6), 0);
        fillRow(x, 6, 8);
        due(32, "fewer than THINGS", x.judge(), -9);
        fillRow(x, 5, 8, 4);
        due(32, "the first", x.judge(), 0);
        due(32, "the ROW has none then either", x.count(6), 0);
        fillRow(x, 6, 8, 4);
        due(32, "the third", x.judge(), 2);
        fillRow(x, 6, 8, 3, 0);
        due(32, "none there", x.judge(), 3);
        due(32, "nothing is counted", x.count(11), 0);
        HoistsAreShared y = told("n04;ts30;");
        fillRow(y, 4);
        due(32, "what it weighs now", y.judge(), -9);
        fillRow(y, 12);
        due(32, "not on the next DAY", y.judge(), 0);
    }

    private static void clear() {
        HoistsAreShared x = new HoistsAreShared();
        due(33, "none", x.clear(), 0);
        fillRow(x, 1, 2, 3);
        due(33, "three", x.clear(), 3);
        due(33, "none then", x.count(6), 0);
        due(33, "the first again", x.row(4), 1);
    }

    private static void lots() {
        HoistsAreShared x = new HoistsAreShared();
        due(34, "no THINGS: level", x.lots(20, 1, 0), 20);
        due(34, "no THINGS: no DOOR", x.lots(20, 1, 1), 0);
        x.lifts(5);
        due(34, "both at a DOOR", x.lots(3, 1, 1), 6);
        due(34, "none level", x.lots(3, 1, 0), 0);
        x.doors(15);
        due(34, "one at a DOOR", x.lots(3, 1, 1), 3);
        // z 0 becomes 1013904223, by 256 is 3960563, modulo 3 is 2: OFF; next 1196435762 -> 4673577 -> 0: ON the one.
        HoistsAreShared y = told("tb91;");
        due(34, "z 0, one season", y.lots(1, 0, 0), 1);
        due(34, "z 0, two seasons", y.lots(2, 0, 0), 1);
        due(34, "z 0, DOORS of two", y.lots(2, 0, 1), 2);
        HoistsAreShared two = told("tb91;th01;");
        // The first OFF, the second ON the one (1: goes none): level.
        due(34, "z 0, two THINGS", two.lots(1, 0, 0), 1);
        // z -1: -1664525 + 1013904223 = 1012239698, by 256 is 3954061, modulo 3 is 1: ON the other.
        due(34, "z -1", y.lots(1, -1, 0), 0);
        due(34, "z -1, DOORS", y.lots(1, -1, 1), 2);
        due(34, "0", y.lots(0, 0, 2), -4);
        due(34, "21", y.lots(21, 0, 2), -6);
        due(34, "what 2", y.lots(20, 0, 2), -2);
        due(34, "what -1", y.lots(1, 0, -1), -2);
        due(34, "nothing moves", y.thing(0, 2), 1);
        // SINCE now: an old THOUGHT of 0 (21 by now) weighs 1 anew, 4 behind 6 DAYS, 7 behind 12: 7 down.
        HoistsAreShared z = told("tt00;n60;f17;");
        // z -1442695 .. : the second DRAW from 0 is ON the one: z 1013904223.
        due(34, "SINCE now", z.lots(1, 1013904223, 0), 1);
    }

    private static void image() {
        HoistsAreShared x = new HoistsAreShared();
        due(35, "DAY 0", x.image(), 0);
        x.days(7);
        due(35, "DAY 7", x.image(), 7);
        x.days(2);
        due(36, "the newer one", x.on(), 7);
    }

    private static void on() {
        HoistsAreShared x = told("th50;tt21;b020;f03;d07;n03;");
        due(36, "none", x.on(), -3);
        due(36, "REFUSALS -3", x.count(13), 1);
        due(35, "image", x.image(), 3);
        int floor = x.count(2);
        tell(x, "tw92;h02;h12;b001;b102;f19;d07;d00;n10;");
        x.turn(1, 5, 8);
        x.row(4);
        x.letter('t');
        x.on();
        due(36, "DAY", x.count(1), 3);
        due(36, "THINGS", x.count(0), 2);
        due(36, "FLOOR", x.count(2), floor);
        due(36, "DOORS", x.count(3), FIRST_DOORS | 1 << 7);
        due(36, "BALLAST", x.side(0, 1), 20);
        due(36, "the other's BALLAST", x.side(1, 1), 10);
        due(36, "where 0", x.thing(0, 2), 0);
        due(36, "where 1", x.thing(1, 2), 1);
        due(36, "SINCE 1", x.thing(1, 3), 0);
        due(36, "KIND 1", x.thing(1, 0), 2);
        due(36, "FIGURE 1", x.thing(1, 1), 2);
        due(36, "the ROW is not in it", x.count(6), 1);
        due(36, "letters are not in it", x.count(7), 1);
        due(36, "REFUSALS are not in it", x.count(13), 1);
        x.lifts(0);
        due(36, "THE IMAGE stays", x.on(), 3);
        due(36, "FLOOR again", x.count(2), floor);
        x.turn(0, 4, 4);
        due(36, "THE IMAGE is apart from what is", x.on(), 3);
        due(36, "KIND 0", x.thing(0, 0), 0);
    }

    private static void count() {
        HoistsAreShared x = told("th50;tl32;tt22;n02;f06;");
        x.row(1);
        x.row(2);
        x.letter('a');
        int[] want = {3, 2, 6, FIRST_DOORS, 6, 6 + 8 + 4, 2, 1};
        for (int what = 0; what < want.length; what++) {
            due(37, "count(" + what + ")", x.count(what), want[what]);
        }
        x.lifts(21);
        x.thing(0, 9);
        x.thing(0, 9);
        x.on();
        x.on();
        x.on();
        x.letter(-1);
        x.row(100);
        x.row(-1);
        int[] refusals = {1, 2, 3, 2, 0, 1};
        for (int i = 0; i < 6; i++) {
            due(37, "count(" + (11 + i) + ")", x.count(11 + i), refusals[i]);
        }
        HoistsAreShared y = told("n04;ts30;");
        due(37, "what all weigh now", y.count(5), 4);
        int[] others = {-1, 8, 9, 10, 17, 18, Integer.MIN_VALUE, Integer.MIN_VALUE + 9, Integer.MAX_VALUE};
        for (int what : others) {
            due(37, "count(" + what + ")", x.count(what), -9);
        }
        due(37, "another what is no REFUSAL", x.count(12), 2);
    }

    private static void beyondTheLastDay() {
        HoistsAreShared x = told("ts30;tt30;b002;");
        passDays(x, 998);
        x.lifts(20);
        x.hangs(1, 2);
        due(13, "a SEASON on DAY 1000", x.weighsThen(0, 2), 4);
        due(13, "a SEASON on DAY 999", x.weighsThen(0, 1), 12);
        due(13, "a SEASON on DAY 1005", x.weighsThen(0, 7), 12);
        due(13, "a THOUGHT on DAY 1058", x.weighsThen(1, 60), 24);
        // PULL 4 on DAY 999, -4 on DAYS 1000 .. 1004, 4 on 1005 .. 1009.
        due(12, "down on DAY 999", x.floorThen(0, 1), 19);
        due(12, "up on DAY 1000", x.floorThen(0, 2), 20);
        due(12, "down on DAY 1006", x.floorThen(0, 8), 18);
        due(34, "seasons beyond it", x.lots(20, 5, 0) >= 0 ? 1 : 0, 1);
    }

    private static void refusalsChangeNothing() {
        HoistsAreShared x = told("th50;tl31;b020;n01;");
        x.row(3);
        x.letter('n');
        int[] before = new int[8];
        for (int what = 0; what < 8; what++) {
            before[what] = x.count(what);
        }
        x.hangs(0, 3);
        x.loads(0, 51);
        x.lifts(-1);
        x.doors(21);
        x.turn(0, 6, 5);
        x.turn(0, 5, 10);
        x.days(61);
        x.row(100);
        x.letter(256);
        x.lots(21, 0, 0);
        x.whatIs(0, 2);
        x.two(0, 0, 0);
        for (int what = 0; what < 8; what++) {
            due(37, "count(" + what + ") behind REFUSALS", x.count(what), before[what]);
        }
        due(10, "KIND and FIGURE stay", x.turn(0, 0, 5), 5);
        due(6, "where stays", x.thing(0, 2), 0);
        due(7, "BALLAST stays", x.side(0, 1), 20);
    }
}
