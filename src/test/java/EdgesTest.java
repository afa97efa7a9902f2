/** The sentences of the document that name an edge, promise by promise, by answers that were reckoned by hand. */
public final class EdgesTest extends Due {
    public static void main(String[] args) {
        newObject();
        letters();
        hoistAtItsEdges();
        hoistWithFaults();
        hoistOfDays();
        things();
        nearestDoors();
        sinceOfHanging();
        ranges();
        speeds();
        heldAtTheEnds();
        lastDays();
        weights();
        weightsOfDays();
        thoughtBeyondTheLastDay();
        firstDays();
        still();
        levels();
        take();
        hang();
        change();
        behindThirtyDays();
        mustWeigh();
        bestKind();
        heaviest();
        grows();
        two();
        draught();
        draughtByDays();
        mean();
        whatIs();
        rows();
        lotsBySeeds();
        lotsInOrder();
        image();
        thingsNoMore();
        counts();
        noneIsNoRefusal();
        end();
    }

    private static HoistsAreShared full(String more) {
        HoistsAreShared x = told("th00;".repeat(7) + "tb90;");
        if (!more.isEmpty()) {
            tell(x, more);
        }
        return x;
    }

    // ---- 1: "The one side at 10, DOORS at 0, 5, 15, 20, BALLAST 10 each, no THINGS."

    private static void newObject() {
        HoistsAreShared x = new HoistsAreShared();
        for (int side = 0; side < 2; side++) {
            due(1, "of the DOORS 5 and 15 the lower", x.side(side, 4), 5);
            due(1, "how far", x.side(side, 5), 5);
            due(1, "no DOOR comes", x.door(side), -9);
        }
        for (int floor = 0; floor <= 20; floor++) {
            x.lifts(floor);
            boolean open = floor % 5 == 0 && floor != 10;
            due(1, "OPEN at " + floor, x.heaviest(2), open ? 3 : 0);
        }
        x.lifts(10);
        due(1, "nothing to take", x.take(30), -9);
        due(1, "nothing to hang", x.hang(30), -9);
        due(1, "nothing to change", x.change(), 0);
        due(1, "MEET", x.meets(), 0);
        due(1, "LEVEL", x.level(60), 61);
        due(1, "PULL", x.pull(60), 0);
        due(1, "never at 0 or 20", x.strikes(0), -9);
        due(1, "STILL", x.strikes(1), 0);
        due(1, "GROWS", x.heaviest(3), 0);
        due(1, "SHRINKS", x.heaviest(4), 0);
        due(1, "BALLAST from which it stays", x.ballast(0, 30, 0), 7);
        due(1, "BALLAST of the other, likewise", x.ballast(1, 30, 0), 7);
        due(1, "nothing is REFUSED so far", x.count(11) + x.count(12) + x.count(14) + x.count(16), 0);
        due(1, "no THING 0", x.thing(0, 0), -1);
        due(1, "no THING 0 to hang", x.hangs(0, 0), -1);
        due(1, "no IMAGE", x.on(), -3);
        due(1, "no number in the ROW", x.clear(), 0);
        due(1, "no letters", x.hoist(), -1000);
    }

    // ---- 2: "A letter (0 .. 255) comes: how many there are. -4; -6 (255; 96, too)."

    private static void letters() {
        HoistsAreShared x = new HoistsAreShared();
        spell(x, "th5");
        due(2, "a letter refused as below", x.letter(-1), -4);
        due(2, "a letter refused as above", x.letter(256), -6);
        due(2, "the next one", x.letter('0'), 4);
        due(2, "and the next", x.letter(';'), 5);
        due(2, "those refused are not in the text", x.hoist(), 1);
        spell(x, "f10;".repeat(23) + "f03");
        due(2, "95 letters", x.count(7), 95);
        due(2, "the 96th", x.letter(';'), 96);
        due(2, "the 97th", x.letter(';'), -6);
        due(2, "below 0 is told ahead of no room", x.letter(-1), -4);
        due(2, "the 97th is not in the text", x.hoist(), 24);
        due(2, "what the 24th told", x.count(2), 3);
        due(2, "the text is empty then", x.letter(0), 1);
        due(2, "0 is a letter with which no HOIST goes on", x.hoist(), -1000);
        due(2, "with a FAULT the text is empty, too", x.letter(255), 1);
    }

    // ---- 3: the numbers' ranges in STATEMENTS

    private static void toldDue(String text, int want) {
        due(3, "'" + text + "'", tell(new HoistsAreShared(), text), want);
    }

    private static void hoistAtItsEdges() {
        for (int where = 0; where <= 9; where++) {
            toldDue("th0" + where + ";", where <= 2 ? 1 : -2000);
            toldDue("th00;h0" + where + ";", where <= 2 ? 2 : -2005);
        }
        for (int side = 0; side <= 9; side++) {
            toldDue("b" + side + "50;", side <= 1 ? 1 : -2000);
        }
        for (int n = 0; n <= 99; n++) {
            String number = "" + n / 10 + n % 10;
            toldDue("b0" + number + ";", n <= 50 ? 1 : -2000);
            toldDue("f" + number + ";", n <= 20 ? 1 : -2000);
            toldDue("d" + number + ";", n <= 20 ? 1 : -2000);
            toldDue("n" + number + ";", n >= 1 && n <= 60 ? 1 : -2000);
        }
        for (int things = 0; things <= 8; things++) {
            for (int thing = 0; thing <= 9; thing++) {
                String all = "th00;".repeat(things);
                toldDue(all + "h" + thing + "1;", thing < things ? things + 1 : -2000 - 5 * things);
            }
        }
        for (int c = 0; c <= 255; c++) {
            toldDue("" + (char) c, "thbfdn".indexOf(c) >= 0 ? -1001 : -1000);
            toldDue("t" + (char) c, "hltsbw".indexOf(c) >= 0 ? -1002 : -1001);
            toldDue("th" + (char) c, c >= '0' && c <= '9' ? -1003 : -1002);
            toldDue("th00" + (char) c, c == ';' ? 1 : -1004);
            toldDue("f20" + (char) c, c == ';' ? 1 : -1003);
            toldDue("f20;" + (char) c, "thbfdn".indexOf(c) >= 0 ? -1005 : -1004);
        }
        for (int figure = 0; figure <= 9; figure++) {
            due(3, "FIGURE " + figure, told("tl" + figure + "2;").thing(0, 1), figure);
        }
    }

    // ---- 3: "FAULT: kind 1 .. else kind 2 the first STATEMENT that, behind all ahead of it .. is not as it must be"

    private static void hoistWithFaults() {
        toldDue("", -1000);
        toldDue("h", -1001);
        toldDue("h0", -1002);
        toldDue("h00", -1003);
        toldDue("th00;h00", -1008);
        toldDue("th00;h0;", -1007);
        toldDue("h99;f99;d99;n99;b999;th99", -1025);
        toldDue("h99;f99;d99;n99;b999;th99;", -2000);
        toldDue("h99;f99;d99;n99;b999;th99;;", -1026);
        toldDue("f01;f21;f22;", -2004);
        toldDue("th00;h10;th00;h10;", -2005);
        toldDue("th00;th00;h10;h20;", -2014);
        toldDue("th00;".repeat(8) + "h72;th00;h82;", -2044);
        String noRoom = "th00;".repeat(9);
        toldDue(noRoom + "n1", -1047);
        toldDue(noRoom + "x", -1045);
        HoistsAreShared x = told("th50;tt21;b020;f03;d07;n02;");
        HoistsAreShared y = told("th50;tt21;b020;f03;d07;n02;");
        x.image();
        y.image();
        fillRow(x, 6, 4);
        fillRow(y, 6, 4);
        due(3, "a FAULT of kind 1 at the end", tell(x, "h01;b011;f09;d08;d07;n03;tw93;n"), -1031);
        due(3, "a FAULT of kind 2 at the end", tell(x, "h01;b011;f09;d08;d07;n03;tw92;h03;"), -2030);
        due(3, "with either nothing comes", Seen.all(x).equals(Seen.all(y)) ? 1 : 0, 1);
        HoistsAreShared z = told("th02;");
        due(3, "a full text with a FAULT in the last", tell(z, "th02;".repeat(7) + "f20;".repeat(14) + "b051;"), -2091);
        due(3, "none of it came", z.count(0), 1);
        due(3, "a full text without", tell(z, "th02;".repeat(7) + "f20;".repeat(14) + "b050;"), 22);
        due(3, "all of it came", z.count(0), 8);
        due(3, "a full text that lacks the last ';'", tell(z, "f10;".repeat(23) + "b010"), -1096);
        due(3, "nothing is counted", z.count(11) + z.count(12) + z.count(13) + z.count(14) + z.count(16), 0);
    }

    // ---- 3: "n" DAYS .. DAY above 999; "d" .. told again, none

    private static void hoistOfDays() {
        HoistsAreShared x = new HoistsAreShared();
        due(3, "960 DAYS and 40 are 1000", tell(x, "n60;".repeat(16) + "n40;"), -2064);
        due(3, "960 DAYS and 39 are 999", tell(x, "n60;".repeat(16) + "n39;"), 17);
        due(3, "DAY", x.count(1), 999);
        due(3, "one more", tell(x, "f03;n01;"), -2004);
        due(3, "others come on the last DAY", tell(x, "f03;th51;"), 2);
        due(3, "SINCE", x.thing(0, 3), 999);
        HoistsAreShared y = told("d03;d03;d03;d20;d20;d00;");
        due(3, "thrice is one, twice is as it was", y.count(3), FIRST_DOORS ^ 8 ^ 1);
        // PULL 8: to 8. ON the other side -8: to 10. From 15 by 32 down.
        HoistsAreShared z = told("th70;n01;h01;n01;f15;b050;n01;");
        due(3, "each behind what is ahead of it", z.count(2), 12);
        due(3, "SINCE the DAY within the text", z.thing(0, 3), 1);
        due(3, "DAY within the text", z.count(1), 3);
    }

    // ---- 4: THINGS

    private static void things() {
        HoistsAreShared x = full("");
        due(4, "the eighth THING's KIND", x.thing(7, 0), 4);
        due(4, "the eighth THING weighs", x.thing(7, 4), 23);
        due(4, "no ninth", x.thing(8, 0), -1);
        HoistsAreShared y = told("th00;tl11;tt22;ts30;tb41;tw52;");
        for (int i = 0; i < 6; i++) {
            due(4, "KIND of " + i, y.thing(i, 0), i);
            due(4, "FIGURE of " + i, y.thing(i, 1), i);
            due(4, "where " + i + " is", y.thing(i, 2), i % 3);
            due(4, "SINCE of " + i, y.thing(i, 3), 0);
        }
    }

    // ---- 5: "NEAREST DOOR: to a side, of several the lower; -9; how far."

    private static void nearestDoors() {
        HoistsAreShared x = told("d00;d05;d15;d20;d08;d12;");
        due(5, "of 8 and 12 the lower", x.side(0, 4), 8);
        due(5, "for the other, too", x.side(1, 4), 8);
        x.lifts(11);
        due(5, "the nearer one", x.side(0, 4), 12);
        due(5, "it is 1 away", x.side(0, 5), 1);
        due(5, "the other is at 9", x.side(1, 4), 8);
        x.doors(8);
        due(5, "the one left", x.side(1, 4), 12);
        due(5, "it is 3 away", x.side(1, 5), 3);
        x.doors(12);
        due(5, "none left", x.side(1, 4), -9);
        due(5, "none left: how far", x.side(0, 5), -9);
        x.doors(0);
        x.lifts(20);
        due(5, "20 away", x.side(0, 5), 20);
        due(5, "the other is there", x.side(1, 5), 0);
        HoistsAreShared y = full("b050;b100;");
        due(5, "eight THINGS ON it", y.side(0, 3), 255);
        due(5, "their WEIGHT and 50", y.side(0, 2), 80);
        due(5, "no THINGS, no BALLAST", y.side(1, 2), 0);
        HoistsAreShared s = told("n04;ts31;n01;");
        due(5, "WEIGHT on DAY 5, not on the one ahead of it", s.side(1, 2), 22);
    }

    // ---- 6, 10: SINCE

    private static void sinceOfHanging() {
        HoistsAreShared x = told("tt00;n04;");
        due(10, "turn: what it was", x.turn(0, 5, 9), 20);
        due(10, "turn leaves SINCE", x.thing(0, 3), 0);
        due(10, "a WISH of 9 with g 4", x.thing(0, 4), 18);
        for (int where = 2; where >= 0; where--) {
            x.days(1);
            x.hangs(0, where);
            due(6, "SINCE, hung at " + where, x.thing(0, 3), x.count(1));
            due(6, "a WISH anew", x.thing(0, 4), 20);
            x.days(2);
            due(6, "g goes on at " + where, x.thing(0, 4), 19);
            due(6, "it is there already", x.hangs(0, where), where);
            due(6, "SINCE this DAY", x.thing(0, 4), 20);
        }
        HoistsAreShared y = full("");
        due(6, "the eighth THING", y.hangs(7, 2), 0);
        due(6, "it is OFF", y.count(4), 128);
        due(10, "the eighth THING's KIND and FIGURE", y.turn(7, 5, 0), 49);
    }

    // ---- 7, 8, 9: each number of a range, and those about it

    private static void ranges() {
        HoistsAreShared x = new HoistsAreShared();
        for (int side = 0; side < 2; side++) {
            int was = 10;
            for (int v = 0; v <= 50; v++) {
                due(7, "BALLAST " + v + " of " + side, x.loads(side, v), was);
                due(7, "BALLAST then", x.side(side, 1), v);
                was = v;
            }
            due(7, "51 of " + side, x.loads(side, 51), -6);
            due(7, "-1 of " + side, x.loads(side, -1), -4);
            due(7, "it is 50 still", x.side(side, 1), 50);
        }
        HoistsAreShared y = new HoistsAreShared();
        int was = 10;
        for (int floor = 0; floor <= 20; floor++) {
            due(8, "lifts(" + floor + ")", y.lifts(floor), was);
            due(8, "the other then", y.side(1, 0), 20 - floor);
            was = floor;
            boolean open = (FIRST_DOORS >> floor & 1) == 1;
            due(9, "doors(" + floor + ")", y.doors(floor), open ? 0 : 1);
        }
        due(9, "all DOORS the other way", y.count(3), ~FIRST_DOORS & (1 << 21) - 1);
        due(8, "lifts(21)", y.lifts(21), -1);
        due(9, "doors(21)", y.doors(21), -1);
        due(8, "lifts(-1)", y.lifts(-1), -1);
        due(9, "doors(-1)", y.doors(-1), -1);
        due(8, "it is at 20 still", y.count(2), 20);
    }

    // ---- 11: "as many FLOORS as PULL by 4 (without sign, cut) is, 3 at most (0 .. 20 held)"

    private static int speedOf(int pull) {
        return pull < 4 ? 0 : pull < 8 ? 1 : pull < 12 ? 2 : 3;
    }

    private static void speeds() {
        for (int pull = 0; pull <= 40; pull++) {
            HoistsAreShared down = new HoistsAreShared();
            down.loads(0, 10 + pull);
            due(11, "PULL " + pull, down.days(1), 10 - speedOf(pull));
            HoistsAreShared up = new HoistsAreShared();
            up.loads(1, 10 + pull);
            due(11, "PULL -" + pull, up.days(1), 10 + speedOf(pull));
            due(14, "it is told", up.pull(0), -pull);
        }
    }

    private static void heldAtTheEnds() {
        int[] pulls = {4, 8, 12, 40};
        int[] speeds = {1, 2, 3, 3};
        for (int i = 0; i < pulls.length; i++) {
            for (int from = 0; from <= 4; from++) {
                HoistsAreShared x = new HoistsAreShared();
                x.loads(0, 10 + pulls[i]);
                x.lifts(from);
                int low = from > speeds[i] ? from - speeds[i] : 0;
                due(12, "from " + from + " by PULL " + pulls[i] + " in mind", x.floorThen(0, 1), low);
                due(11, "from " + from + " by PULL " + pulls[i], x.days(1), low);
                HoistsAreShared y = new HoistsAreShared();
                y.loads(1, 10 + pulls[i]);
                y.lifts(20 - from);
                due(12, "from " + (20 - from) + " by PULL -" + pulls[i] + " in mind", y.floorThen(1, 1), low);
                due(11, "from " + (20 - from) + " by PULL -" + pulls[i], y.days(1), 20 - low);
            }
        }
        HoistsAreShared z = told("f02;b050;n09;");
        due(11, "held at 0", z.count(2), 0);
        z.loads(0, 2);
        due(11, "it leaves 0 at once", z.days(1), 2);
        z.loads(1, 50);
        due(11, "held at 20", z.days(9), 20);
        z.loads(1, 0);
        z.loads(0, 4);
        due(11, "it leaves 20 at once", z.days(1), 19);
    }

    // ---- 11: "n DAYS (1 .. 60) go by .. -4; -6 (60; DAY above 999)"

    private static void lastDays() {
        HoistsAreShared x = new HoistsAreShared();
        passDays(x, 939);
        due(11, "0 DAYS", x.days(0), -4);
        due(11, "61 DAYS", x.days(61), -6);
        due(11, "60 DAYS to 999", x.days(60), 10);
        due(11, "1 DAY to 1000", x.days(1), -6);
        due(11, "0 DAYS on the last one", x.days(0), -4);
        due(11, "DAY", x.count(1), 999);
        HoistsAreShared y = told("b014;n05;");
        passDays(y, 935);
        y.lifts(10);
        due(11, "60 DAYS to 1000", y.days(60), -6);
        due(11, "none of them went by", y.count(2), 10);
        due(11, "DAY stays", y.count(1), 940);
        due(11, "59 DAYS to 999", y.days(59), 0);
        due(35, "THE IMAGE of the last DAY", y.image(), 999);
        due(12, "60 DAYS on in mind", y.floorThen(0, 60), 0);
        due(14, "PULL 60 DAYS on in mind", y.pull(60), 4);
        due(37, "DAY stays in mind", y.count(1), 999);
    }

    // ---- 4, 13: what one weighs

    private static void weights() {
        int[][] least = {
            {0, 1, 2, 1, 1, 5, 29}, {1, 1, 2, 1, 1, 5, 29}, {2, 1, 2, 2, 1, 5, 28}, {3, 1, 2, 2, 1, 5, 28},
            {4, 1, 2, 3, 1, 5, 27}, {5, 1, 2, 3, 3, 5, 27}, {9, 1, 2, 5, 3, 5, 25}, {10, 1, 2, 6, 1, 5, 24},
            {39, 1, 2, 20, 3, 5, 10}, {40, 1, 2, 21, 1, 5, 9}, {41, 1, 2, 21, 1, 5, 9}, {60, 1, 2, 21, 1, 5, 9},
        };
        int[][] greatest = {
            {0, 10, 20, 10, 10, 23, 20}, {1, 10, 20, 10, 10, 23, 20}, {2, 10, 20, 11, 10, 23, 19},
            {4, 10, 20, 12, 10, 23, 18}, {5, 10, 20, 12, 30, 23, 18}, {9, 10, 20, 14, 30, 23, 16},
            {38, 10, 20, 29, 30, 23, 1}, {39, 10, 20, 29, 30, 23, 1}, {40, 10, 20, 30, 10, 23, 0},
            {41, 10, 20, 30, 10, 23, 0}, {45, 10, 20, 30, 30, 23, 0}, {60, 10, 20, 30, 10, 23, 0},
        };
        weightsDue("th00;tl00;tt00;ts00;tb00;tw00;", least);
        weightsDue("th92;tl92;tt92;ts92;tb92;tw92;", greatest);
    }

    private static void weightsDue(String text, int[][] rows) {
        for (int[] row : rows) {
            HoistsAreShared x = told(text);
            for (int kind = 0; kind < 6; kind++) {
                due(13, text + " KIND " + kind + " behind " + row[0], x.weighsThen(kind, row[0]), row[kind + 1]);
            }
            passDays(x, row[0]);
            for (int kind = 0; kind < 6; kind++) {
                due(4, text + " KIND " + kind + " on DAY " + row[0], x.thing(kind, 4), row[kind + 1]);
            }
        }
    }

    private static void weightsOfDays() {
        // A SEASON goes by DAY, not by g: hung on DAY 3, again on DAY 7.
        HoistsAreShared x = told("n03;ts30;");
        int[] byDays = {4, 4, 12, 12, 12, 12, 12, 4, 4, 4, 4, 4, 12};
        for (int n = 0; n < byDays.length; n++) {
            due(13, "a SEASON on DAY " + (3 + n), x.weighsThen(0, n), byDays[n]);
        }
        x.days(4);
        x.hangs(0, 1);
        due(4, "a SEASON hung on DAY 7", x.thing(0, 4), 12);
        due(13, "on DAY 10", x.weighsThen(0, 3), 4);
        // g goes by SINCE, not by DAY.
        HoistsAreShared y = told("n07;tt30;tw32;");
        due(13, "a THOUGHT of DAY 7", y.weighsThen(0, 0), 4);
        due(13, "behind 1", y.weighsThen(0, 1), 4);
        due(13, "behind 2", y.weighsThen(0, 2), 5);
        due(13, "a WISH OFF behind 2", y.weighsThen(1, 2), 25);
        passDays(y, 900);
        due(4, "a THOUGHT of long ago", y.thing(0, 4), 24);
        due(4, "a WISH of long ago", y.thing(1, 4), 6);
        due(12, "what is OFF does not pull, what is ON does", y.floorThen(0, 1), 0);
    }

    // ---- II: "(In thought DAY may pass 999.)"

    private static void thoughtBeyondTheLastDay() {
        HoistsAreShared x = told("ts30;b002;");
        passDays(x, 999);
        tell(x, "tt02;f10;");
        // PULL 2 + 12 - 10 is 4 on DAY 999, then -4 on DAYS 1000 .. 1004 and 4 on 1005 .. 1009.
        due(14, "PULL on DAY 999", x.pull(0), 4);
        due(14, "PULL on DAY 1000", x.pull(1), -4);
        due(14, "PULL on DAY 1005", x.pull(6), 4);
        due(12, "behind 5 DAYS", x.floorThen(0, 5), 15);
        due(12, "behind 10 DAYS", x.floorThen(0, 10), 10);
        due(16, "it comes to 11", x.comes(0, 11), 1);
        due(16, "it comes to 15", x.comes(0, 15), 5);
        due(18, "at a DOOR", x.door(0), 5);
        due(19, "level on DAY 999 and each tenth", x.level(60), 7);
        due(13, "a THOUGHT of DAY 999 on DAY 1039", x.weighsThen(1, 40), 21);
        due(26, "SHRINKS by DAY 1000", x.heaviest(4), 1);
        due(26, "GROWS by DAY 1000", x.heaviest(3), 0);
        due(23, "BALLAST BEST beyond it", x.ballast(0, 5, 1), 0);
        // The SEASON weighs 4 on all of these: with BALLAST 3 PULL is -3.
        due(23, "BALLAST BEST beyond it: which", x.ballast(0, 5, 0), 3);
        due(28, "DRAUGHT beyond it", x.draught(1, 2, 12, 1), 2);
        due(37, "DAY stays", x.count(1), 999);
    }

    // ---- 15 .. 18: behind 0 DAYS, and behind 60

    private static void firstDays() {
        HoistsAreShared x = told("b014;f20;");
        due(16, "at 20 now", x.comes(0, 20), 0);
        due(16, "at 19 on the next DAY", x.comes(0, 19), 1);
        due(16, "the other at 0 now", x.comes(1, 0), 0);
        due(16, "the other at 20", x.comes(1, 20), 20);
        due(17, "at 20 now", x.strikes(0), 0);
        due(18, "at a DOOR now", x.door(0), 0);
        due(15, "MEET", x.meets(), 10);
        x.lifts(19);
        due(17, "at 0 behind 19", x.strikes(0), 19);
        due(18, "at 15 behind 4", x.door(0), 4);
        due(18, "the other at 5 behind 4", x.door(1), 4);
        x.lifts(11);
        due(15, "MEET behind 1", x.meets(), 1);
        x.lifts(9);
        due(15, "MEET no more", x.meets(), -9);
        // The one side rises from 9: it is the other one that strikes 0.
        HoistsAreShared y = told("b114;f09;");
        due(17, "the one at 20, the other at 0", y.strikes(0), 11);
        due(16, "the other at 0", y.comes(1, 0), 11);
    }

    // ---- 17: "STILL: the least n (0 .. 60) behind which none goes for 10 DAYS; -9."

    private static void still() {
        // A THOUGHT of 0 with g 1 now: PULL 3 behind 10 DAYS, 4 behind 11: ten DAYS without going, not eleven.
        HoistsAreShared x = told("tt00;b007;n01;");
        due(17, "PULL behind 10", x.pull(10), 3);
        due(17, "PULL behind 11", x.pull(11), 4);
        due(17, "10 DAYS are enough", x.strikes(1), 0);
        // One DAY later it is nine; from behind 10 on one down a DAY, and from 2 behind 18 two down: held at 0.
        x.days(1);
        due(17, "9 DAYS are not", x.strikes(1), 18);
        // Held at 0 it goes none, however great PULL is.
        HoistsAreShared y = told("b050;f00;");
        due(17, "held at 0 from the first", y.strikes(1), 0);
        y.lifts(1);
        due(17, "held at 0 behind 1", y.strikes(1), 1);
        HoistsAreShared z = told("b150;f20;");
        due(17, "held at 20 from the first", z.strikes(1), 0);
        z.lifts(16);
        due(17, "held at 20 behind 2", z.strikes(1), 2);
        // Held at 0 on DAYS 6 .. 9 (PULL 10), then two up a DAY (PULL -10), then two down, and so on.
        HoistsAreShared w = told("n05;ts90;b130;f00;");
        due(17, "up on the light DAYS, down on the heavy ones", w.strikes(1), -9);
    }

    // ---- 19: "how many of DAYS 0 .. n on (0 .. 60) they are at one FLOOR"

    private static void levels() {
        HoistsAreShared x = told("b014;");
        due(19, "on DAY 0 alone", x.level(0), 1);
        due(19, "on DAY 0, not on 1", x.level(1), 1);
        x.lifts(11);
        due(19, "not on DAY 0", x.level(0), 0);
        due(19, "on the last one", x.level(1), 1);
        x.loads(0, 13);
        due(19, "never at 11", x.level(60), 0);
        // A SEASON: up from 9 to 14 on DAYS 10 .. 14, down to 9 on DAYS 15 .. 19: at 10 on DAYS 10, 18, 20, 28, .., 68.
        HoistsAreShared y = told("ts30;b002;n09;");
        due(19, "at 9 on DAY 9", y.count(2), 9);
        due(19, "on DAY 10 first", y.level(1), 1);
        due(19, "to DAY 69", y.level(60), 12);
        due(19, "to DAY 59", y.level(50), 10);
        due(19, "to DAY 60", y.level(51), 11);
    }

    // ---- 20, 21: "nearer than as it is, of several the least; -9"

    private static void take() {
        // PULL 30: three down a DAY; without the BOOTS 7: one down.
        HoistsAreShared x = full("");
        due(20, "the last THING", x.take(1), 7);
        due(20, "apart behind 9: 18 without, 20 with it", x.take(9), 7);
        due(20, "held at 0 with and without", x.take(10), -9);
        due(20, "behind 0", x.take(0), -9);
        // PULL 23, by the BOOTS alone.
        x.loads(0, 3);
        due(20, "behind 30", x.take(30), 7);
        due(20, "31", x.take(31), -6);
        x.hangs(7, 2);
        due(20, "level without it", x.take(30), -9);
        due(20, "and behind 0", x.take(0), -9);
        // 0 and 1 ON the other side weigh the same: PULL is -10 with both, 0 without one of them.
        HoistsAreShared y = told("th91;th91;th90;");
        due(20, "of several the least", y.take(5), 0);
        // PULL 0 at 13; without 0, or without 1, it is 10: at 9 behind 2, at 5 behind 4.
        HoistsAreShared z = told("tl41;th91;th90;th90;f13;");
        due(20, "apart 2 instead of 6", z.take(2), 0);
        due(20, "apart 10 instead of 6", z.take(4), -9);
    }

    private static void hang() {
        HoistsAreShared x = told("th02;".repeat(7) + "tl32;b018;");
        // PULL 8: two down. A HAT ON the other: 7, one down. The LEDGER ON the other: 0.
        due(21, "the last THING and the other side", x.hang(1), 71);
        due(21, "behind 30", x.hang(30), 71);
        due(21, "behind 0", x.hang(0), -9);
        x.hangs(7, 1);
        due(21, "level with it", x.hang(30), -9);
        x.hangs(7, 0);
        // PULL 16: three down with any HAT.
        due(21, "no HAT is enough", x.hang(1), -9);
        HoistsAreShared y = told("th02;".repeat(7) + "tl32;b002;");
        due(21, "the last THING and the one side", y.hang(1), 70);
        // PULL 4: any HAT ON the other makes it 3.
        HoistsAreShared z = told("th02;".repeat(8) + "b014;");
        due(21, "of several the least", z.hang(30), 1);
        z.hangs(0, 0);
        z.loads(0, 13);
        due(21, "what is ON is not hung", z.hang(30), 11);
        HoistsAreShared w = told("th02;f11;");
        // PULL 1 or -1 moves none.
        due(21, "as near as it is", w.hang(30), -9);
    }

    // ---- 22: "the fewest THINGS ON (bits, of several the least) to be hung on the other side now"

    private static void change() {
        // 12 on DAY 5, 4 on DAY 4: PULL 7; on the other side -17.
        HoistsAreShared x = told("b005;n05;ts30;");
        due(22, "a SEASON on DAY 5", x.change(), -9);
        HoistsAreShared y = told("b006;n10;ts30;");
        due(22, "a SEASON on DAY 10", y.change(), 0);
        HoistsAreShared z = told("n05;ts30;b022;");
        due(22, "24 less 24", z.change(), 1);
        // A THOUGHT with g 2: PULL 4; on the other side, anew, -5.
        HoistsAreShared w = told("tt30;n02;b009;");
        due(22, "a THOUGHT of 2 DAYS", w.change(), -9);
        // PULL 30: the BOOTS alone leave -16, the seven HATS alone 16.
        HoistsAreShared all = full("");
        due(22, "no such change", all.change(), -9);
        all.loads(1, 27);
        // PULL 13: five HATS leave 3.
        due(22, "five of seven", all.change(), 31);
        all.loads(0, 43);
        // PULL 46: the BOOTS leave 0.
        due(22, "the last one alone", all.change(), 128);
        // PULL is -4: either HAT on the other side makes it 0.
        HoistsAreShared v = told("th11;th11;b010;");
        due(22, "the least of those ON the other", v.change(), 1);
        // PULL 4, 10, 20, -10, -20: a HAT of 10 would do for some, were it ON or hung there.
        int[][] ballasts = {{14, 10}, {20, 10}, {30, 10}, {10, 20}, {10, 30}};
        for (int[] both : ballasts) {
            HoistsAreShared off = told("th92;");
            off.loads(0, both[0]);
            off.loads(1, both[1]);
            due(22, "what is OFF is not hung by " + both[0] + ", " + both[1], off.change(), -9);
        }
        // PULL 8; turned into BOOTS of 9 it is 27, and -19 on the other side; as a HAT of 9 14 and -6; of 7 12 and -4.
        HoistsAreShared turned = told("th30;b014;");
        due(22, "a HAT of 3", turned.change(), 1);
        turned.turn(0, 4, 9);
        due(22, "turned into BOOTS", turned.change(), -9);
        turned.turn(0, 0, 9);
        due(22, "turned into a HAT of 9", turned.change(), -9);
        turned.turn(0, 0, 6);
        due(22, "turned into a HAT of 6: 11 and -3", turned.change(), 1);
        turned.hangs(0, 2);
        due(22, "OFF by now: PULL 4", turned.change(), -9);
    }

    // ---- 23, 24, 25: "behind n DAYS (0 .. 30)"

    private static void behindThirtyDays() {
        // On DAY 5 at 20. With PULL 4 on heavy DAYS it goes down on DAYS 6 .. 9, 15 .. 19, 25 .. 29 and 35: 14 times
        // behind 29 DAYS, 15 times behind 30. With BALLAST 10 it never goes, with 13 it goes each DAY: to 0.
        HoistsAreShared x = told("ts00;f20;n05;");
        due(23, "behind 30", x.ballast(0, 30, 0), 11);
        due(23, "how near behind 30", x.ballast(0, 30, 1), 10);
        due(23, "how near behind 29", x.ballast(0, 29, 1), 8);
        // 8 is PULL 5 on heavy DAYS and 3 on light ones, 7 is 4 on these.
        due(23, "the other's", x.ballast(1, 30, 0), 8);
        x.loads(0, 11);
        due(24, "behind 30 at 5", x.mustWeigh(0, 0, 30), 0);
        due(24, "the other at 15", x.mustWeigh(0, 1, 30), 0);
        // Behind 29 at 6 with FIGURE 0 or 1; FIGURE 2 is PULL 4 on light DAYS, too: at 0.
        due(24, "behind 29 at 0", x.mustWeigh(0, 0, 29), 2);
        // A HAT and a LEDGER stay at 20; THOUGHT, BOOTS and WISH are at 0 by then.
        due(25, "behind 30", x.bestKind(0, 30, 0), 3);
        due(25, "how near behind 30", x.bestKind(0, 30, 1), 10);
        due(25, "how near behind 29", x.bestKind(0, 29, 1), 8);
        due(25, "31", x.bestKind(0, 31, 1), -6);
        due(24, "31", x.mustWeigh(0, 0, 31), -6);
        due(23, "31", x.ballast(0, 31, 1), -6);
    }

    private static void mustWeigh() {
        HoistsAreShared x = told("th00;b012;d00;d05;d15;d20;d07;");
        // PULL 3 and FIGURE: 12 with 9 alone.
        due(24, "the greatest FIGURE", x.mustWeigh(0, 0, 1), 9);
        x.loads(0, 11);
        due(24, "no FIGURE", x.mustWeigh(0, 0, 1), -9);
        x.loads(0, 12);
        due(24, "the other is at 13 then", x.mustWeigh(0, 1, 1), -9);
        x.doors(13);
        due(24, "the other at 13", x.mustWeigh(0, 1, 1), 9);
        due(24, "behind 0: not at a DOOR", x.mustWeigh(0, 0, 0), -9);
        x.doors(10);
        due(24, "behind 0: at a DOOR", x.mustWeigh(0, 0, 0), 0);
        due(24, "behind 0: the other", x.mustWeigh(0, 1, 0), 0);
        HoistsAreShared none = told("d00;d05;d15;d20;th50;");
        due(24, "no DOORS", none.mustWeigh(0, 0, 30), -9);
        // g 10 stays: a THOUGHT weighs 6 and FIGURE; PULL 8 with FIGURE 2.
        HoistsAreShared y = told("tt92;n10;d08;");
        tell(y, "f10;");
        due(24, "OFF it pulls none", y.mustWeigh(0, 0, 1), -9);
        HoistsAreShared z = told("tt91;tt90;n10;d12;f10;b003;b104;");
        // 3 and 15 less 4 and 6 and FIGURE: PULL 8 less FIGURE; -8 by none; up with none.
        due(24, "two up by no FIGURE", z.mustWeigh(0, 0, 1), -9);
        due(24, "the other at 12: PULL 8 with FIGURE 0", z.mustWeigh(0, 1, 1), 0);
        z.loads(0, 13);
        due(24, "the other at 12: PULL 11 with FIGURE 7", z.mustWeigh(0, 1, 1), 7);
        due(24, "its FIGURE stays", z.thing(0, 1), 9);
        HoistsAreShared last = full("d08;");
        // PULL 7 and 2 times FIGURE and 5: 12 and more.
        due(24, "the eighth THING", last.mustWeigh(7, 0, 1), -9);
        last.loads(1, 12);
        due(24, "the eighth THING: PULL 10 with FIGURE 0", last.mustWeigh(7, 0, 1), 0);
        last.loads(1, 15);
        due(24, "the eighth THING: PULL 9 with FIGURE 1", last.mustWeigh(7, 0, 1), 1);
    }

    private static void bestKind() {
        HoistsAreShared x = told("th50;f00;");
        due(25, "behind 0 all are alike: the least", x.bestKind(0, 0, 0), 0);
        due(25, "behind 0: as far as they are", x.bestKind(0, 0, 1), 20);
        x.lifts(20);
        due(25, "behind 0 at 20", x.bestKind(0, 0, 1), 20);
        x.turn(0, 4, 5);
        due(25, "behind 0 the least, not what it is", x.bestKind(0, 0, 0), 0);
        HoistsAreShared y = told("th00;n08;f10;b001;");
        // Behind 1 DAY: HAT -8, LEDGER -7, THOUGHT -4 (g 9), SEASON -6 (DAY 9), BOOTS -4, WISH 16.
        due(25, "one up by a LEDGER, the least of several", y.bestKind(0, 1, 0), 1);
        y.loads(0, 3);
        // HAT -6, LEDGER -5, THOUGHT -2.
        due(25, "a THOUGHT by its g", y.bestKind(0, 1, 0), 2);
        due(25, "a THOUGHT: how near", y.bestKind(0, 1, 1), 0);
        HoistsAreShared last = full("b130;");
        // -13 and what it weighs: HAT -3, LEDGER 7, THOUGHT -3, SEASON -3, BOOTS 10, WISH 7.
        due(25, "the eighth THING", last.bestKind(7, 1, 0), 0);
        last.loads(1, 37);
        // -20 and what it weighs: HAT -10, LEDGER 0.
        due(25, "the eighth THING as a LEDGER", last.bestKind(7, 30, 0), 1);
        due(25, "it is BOOTS still", last.thing(7, 0), 4);
    }

    // ---- 26: now, and the next DAY

    private static void heaviest() {
        HoistsAreShared x = told("n04;ts30;th42;");
        // The SEASON: 4 on DAY 4, 12 on DAY 5; the HAT 5.
        due(26, "HEAVIEST on DAY 4", x.heaviest(0), 1);
        due(26, "LIGHTEST on DAY 4", x.heaviest(1), 0);
        x.days(1);
        due(26, "HEAVIEST on DAY 5", x.heaviest(0), 0);
        due(26, "LIGHTEST on DAY 5", x.heaviest(1), 1);
        x.days(4);
        due(26, "HEAVIEST on DAY 9", x.heaviest(0), 0);
        x.days(1);
        due(26, "HEAVIEST on DAY 10", x.heaviest(0), 1);
        HoistsAreShared y = full("");
        due(26, "the eighth is HEAVIEST", y.heaviest(0), 7);
        due(26, "of seven the least is LIGHTEST", y.heaviest(1), 0);
        y.turn(7, 0, 0);
        due(26, "of eight the least is HEAVIEST", y.heaviest(0), 0);
        HoistsAreShared z = told("th02;tw92;n40;");
        due(26, "a WISH of 0 is LIGHTEST", z.heaviest(1), 1);
        due(26, "not HEAVIEST", z.heaviest(0), 0);
        z.turn(0, 5, 9);
        due(26, "of two that weigh 0 the least", z.heaviest(0), 0);
        HoistsAreShared one = told("tb92;");
        due(26, "one alone is HEAVIEST", one.heaviest(0), 0);
        due(26, "and LIGHTEST", one.heaviest(1), 0);
    }

    private static void grows() {
        HoistsAreShared x = told("tt02;tw00;ts11;th00;tl00;tb00;n01;tt00;tw00;");
        // The older ones' g is 1: 2 on the next DAY; the newer ones' is 0.
        due(26, "GROWS: the first THING alone", x.heaviest(3), 1);
        due(26, "SHRINKS: the second alone", x.heaviest(4), 2);
        x.days(1);
        due(26, "GROWS on the DAY behind: the newer one", x.heaviest(3), 64);
        due(26, "SHRINKS: the eighth THING", x.heaviest(4), 128);
        x.days(2);
        due(26, "a SEASON GROWS on DAY 4", x.heaviest(3), 4 | 64);
        x.days(5);
        due(26, "a SEASON SHRINKS on DAY 9", x.heaviest(4), 2 | 4);
        x.days(29);
        // DAY 38: g is 38 and 37, it grows to 19 for the newer one; then 39 and 38, to 20 for the older ones.
        due(26, "GROWS on DAY 38", x.heaviest(3), 64);
        x.days(1);
        due(26, "GROWS on DAY 39", x.heaviest(3), 1);
        x.days(1);
        due(26, "the newer ones to 20", x.heaviest(3), 64);
        x.days(1);
        due(26, "no more than 20: none GROWS", x.heaviest(3), 0);
        due(26, "none SHRINKS", x.heaviest(4), 0);
    }

    // ---- 27: "the first pair .. by which neither has more by another one alone; -9"

    private static void two() {
        // Both held or both let go: PULL 0, at 20. 0 held alone: PULL 8, 18. 1 held alone: held at 20.
        // 11: the second has 1, let go 2. 10: the first has 19, let go 20. 00: the second has 0, held 1.
        // 01: the first has 20, held 21. So it goes round and round.
        HoistsAreShared x = told("th70;th71;f20;");
        due(27, "no such pair", x.two(0, 1, 1), -9);
        due(27, "behind 0 to hold is 1 more", x.two(0, 1, 0), 11);
        due(27, "told the other way round", x.two(1, 0, 1), -9);
        due(37, "-9 is no REFUSAL", x.count(13), 0);
        // The first has 21 by holding, held at 20 with or without; so has the second, ON the same side.
        HoistsAreShared y = told("th00;th00;b150;f20;");
        due(27, "held at 20, both hold", y.two(0, 1, 30), 11);
        due(27, "31", y.two(0, 1, 31), -6);
        // The BOOTS lead to 0 behind 30; without them the HAT of 1 does nothing.
        HoistsAreShared z = full("");
        z.loads(1, 16);
        due(27, "the eighth lets go, the first holds", z.two(7, 0, 30), 1);
        due(27, "the first holds, the eighth lets go", z.two(0, 7, 30), 10);
        z.hangs(0, 2);
        due(27, "one OFF", z.two(7, 0, 30), -3);
        due(27, "the first OFF", z.two(0, 7, 30), -3);
        due(27, "REFUSALS -3", z.count(13), 2);
    }

    // ---- 28: DRAUGHT

    private static void draughtDue(HoistsAreShared x, int n, int t, int v, long above, long below) {
        due(28, "draught(" + n + ", " + t + ", " + v + ") above", x.draught(n, t, v, 0), above);
        due(28, "draught(" + n + ", " + t + ", " + v + ") below", x.draught(n, t, v, 1), below);
    }

    private static void draught() {
        HoistsAreShared x = told("f00;");
        draughtDue(x, 0, 20, 0, 1, 1);
        draughtDue(x, 0, 2, 1, 0, 1);
        draughtDue(x, 1, 5, 0, 1, 1);
        draughtDue(x, 1, 5, 1, 1, 5);
        draughtDue(x, 1, 5, 2, 1, 5);
        draughtDue(x, 1, 5, 3, 0, 1);
        // Seven of seven are 14 FLOORS: 1 by 20 to the 7th; six or more: 7 times 19 and 1, both by 2.
        draughtDue(x, 7, 20, 14, 1, 1280000000L);
        draughtDue(x, 7, 20, 12, 67, 640000000L);
        draughtDue(x, 7, 20, 15, 0, 1);
        draughtDue(x, 7, 20, 20, 0, 1);
        HoistsAreShared y = told("f20;");
        draughtDue(y, 7, 2, 20, 1, 1);
        y.lifts(19);
        draughtDue(y, 1, 2, 20, 1, 2);
        draughtDue(y, 1, 2, 19, 1, 1);
        // 19 only without any: 1 less 1 by 128.
        draughtDue(y, 7, 2, 20, 127, 128);
        // PULL 12: three down, one down with a DRAUGHT; held at 0.
        HoistsAreShared z = told("b022;f01;");
        draughtDue(z, 1, 3, 0, 1, 1);
        draughtDue(z, 1, 3, 1, 0, 1);
        z.lifts(4);
        draughtDue(z, 1, 3, 1, 1, 1);
        draughtDue(z, 1, 3, 2, 1, 3);
        draughtDue(z, 1, 3, 3, 1, 3);
        draughtDue(z, 1, 3, 4, 0, 1);
        // 1 or 3, then 0 but for 3 with another DRAUGHT: 2.
        draughtDue(z, 2, 3, 1, 1, 9);
        // PULL -40 is -48 with it: three up all the same.
        HoistsAreShared w = told("b150;");
        draughtDue(w, 2, 3, 16, 1, 1);
        draughtDue(w, 2, 3, 17, 0, 1);
    }

    private static void draughtByDays() {
        // DAY 5: 14 + 12 less 10 is 16: three down; 8 with a DRAUGHT: two down. On DAY 4 it would be 8.
        HoistsAreShared x = told("n04;ts30;b014;f10;");
        draughtDue(x, 1, 20, 8, 1, 20);
        draughtDue(x, 1, 20, 7, 1, 1);
        draughtDue(x, 1, 20, 9, 0, 1);
        // A THOUGHT of 0: 1, then 2: PULL 3 on the first DAY, 4 on the second one.
        HoistsAreShared y = told("tt00;b012;");
        draughtDue(y, 1, 2, 10, 1, 1);
        draughtDue(y, 1, 2, 11, 1, 2);
        // 10 or 11 (-5), then one down or one up (-4): 9, 11, 10, 12.
        draughtDue(y, 2, 2, 9, 1, 1);
        draughtDue(y, 2, 2, 10, 3, 4);
        draughtDue(y, 2, 2, 11, 1, 2);
        draughtDue(y, 2, 2, 12, 1, 4);
        due(28, "FLOOR stays", y.count(2), 10);
    }

    // ---- 29: "MEAN: of what THINGS weigh: a fraction (0 by 1 of none)"

    private static void meanDue(HoistsAreShared x, long above, long below) {
        due(29, "MEAN above", x.mean(0), above);
        due(29, "MEAN below", x.mean(1), below);
    }

    private static void mean() {
        meanDue(new HoistsAreShared(), 0, 1);
        meanDue(told("th52;"), 6, 1);
        meanDue(told("th00;th11;"), 3, 2);
        meanDue(told("th00;th21;"), 2, 1);
        meanDue(told("tw92;n40;"), 0, 1);
        meanDue(told("tw92;tw90;tw91;n40;"), 0, 1);
        // 7 and 23 are 30 by 8.
        meanDue(full(""), 15, 4);
        HoistsAreShared x = full("");
        x.turn(7, 0, 0);
        meanDue(x, 1, 1);
        // 4 on DAY 4, 12 on DAY 5.
        HoistsAreShared y = told("n04;ts30;th02;");
        meanDue(y, 5, 2);
        y.days(1);
        meanDue(y, 13, 2);
    }

    // ---- 30: "a ROW tells the FLOOR of the one side behind 0, 1, .. DAYS"

    private static void whatIs() {
        HoistsAreShared x = told("th30;");
        fillRow(x, 10, 9, 8, 7, 6, 5, 4, 3, 2, 1, 0, 0, 0, 0, 0, 0);
        due(31, "the ROW is full", x.count(6), 16);
        due(30, "KINDS by a full ROW", x.whatIs(0, 0), 1);
        due(30, "FIGURES by a full ROW", x.whatIs(0, 1), 8 | 16 | 32 | 64);
        x.clear();
        fillRow(x, 10, 9, 8, 7, 6, 5, 4, 3, 2, 1, 0, 0, 0, 0, 0);
        due(30, "KINDS by fifteen", x.whatIs(0, 0), 1);
        x.row(1);
        due(30, "KINDS: the sixteenth is not so", x.whatIs(0, 0), 0);
        due(30, "FIGURES: the sixteenth is not so", x.whatIs(0, 1), 0);
        due(30, "the ROW stays", x.count(6), 16);
        x.clear();
        due(30, "by an empty ROW any KIND is so", x.whatIs(0, 0), 63);
        due(30, "by an empty ROW any FIGURE is so", x.whatIs(0, 1), 1023);
        x.row(10);
        due(30, "the first is the FLOOR now", x.whatIs(0, 1), 1023);
        x.row(9);
        due(30, "the second is the FLOOR behind 1", x.whatIs(0, 1), 8 | 16 | 32 | 64);
        // SINCE stays: g 11 behind 1 DAY. HAT 1, LEDGER 2, THOUGHT 6, SEASON 1, BOOTS 5, WISH 24.
        HoistsAreShared y = told("th00;n10;");
        fillRow(y, 10, 9);
        due(30, "KINDS by g", y.whatIs(0, 0), 4 | 16);
        y.turn(0, 2, 9);
        // 6 and FIGURE: 4 .. 7 with 0 and 1.
        due(30, "FIGURES of a THOUGHT by g", y.whatIs(0, 1), 1 | 2);
        due(30, "its FIGURE stays", y.turn(0, 5, 9), 29);
        // A WISH: 30 less 6 and FIGURE: 15 with 9.
        due(30, "FIGURES of a WISH", y.whatIs(0, 1), 0);
        y.clear();
        fillRow(y, 10, 7);
        due(30, "all FIGURES of a WISH are three down", y.whatIs(0, 1), 1023);
        HoistsAreShared z = full("");
        fillRow(z, 10, 7);
        // 7 and what the eighth weighs: HAT 10, LEDGER 20, THOUGHT 10, SEASON 10, BOOTS 23, WISH 20; 5 and 2 times FIGURE.
        due(30, "KINDS of the eighth", z.whatIs(7, 0), 63);
        due(30, "FIGURES of the eighth", z.whatIs(7, 1), 1023);
    }

    // ---- 31, 32, 33: the ROW, empty and full

    private static void rows() {
        HoistsAreShared x = full("");
        due(32, "an empty ROW", x.judge(), -9);
        fillRow(x, 1, 1, 1, 1, 1, 1, 1, 23);
        due(32, "eight that are so", x.judge(), -9);
        fillRow(x, 1, 1, 1, 1, 1, 1, 1, 22);
        due(32, "the eighth is not so", x.judge(), 7);
        fillRow(x, 1, 1, 1, 1, 1, 1, 1, 23, 0);
        due(32, "none there", x.judge(), 8);
        fillRow(x, 1, 1, 1, 1, 1, 1, 1, 23, 0, 0, 0, 0, 0, 0, 0, 0);
        due(31, "the 17th", x.row(0), -6);
        due(31, "100 in a full ROW", x.row(100), -6);
        due(31, "-1 in a full ROW", x.row(-1), -4);
        due(32, "a full ROW", x.judge(), 8);
        due(32, "it has none then", x.count(6), 0);
        for (int i = 1; i <= 16; i++) {
            due(31, "number " + i, x.row(99), i);
        }
        due(33, "clear", x.clear(), 16);
        due(33, "clear again", x.clear(), 0);
        due(31, "room again", x.row(0), 1);
        due(32, "the first is not so", x.judge(), 0);
        HoistsAreShared y = new HoistsAreShared();
        y.row(0);
        due(32, "no THINGS: none there", y.judge(), 0);
        due(37, "nothing is counted", y.count(11), 0);
        HoistsAreShared z = told("tw92;n40;");
        z.row(0);
        due(32, "what weighs 0 is there", z.judge(), -9);
        // A SEASON: 12 on DAY 9, 4 on DAY 10.
        HoistsAreShared s = told("ts32;n10;");
        s.row(4);
        due(32, "on DAY 10, not on the one ahead of it", s.judge(), -9);
    }

    // ---- 34: LOTS, by seeds below 0 and by those whose DRAW wraps around

    /** How many of the seasons' DRAWS for one THING are OFF, ON the one side and ON the other. */
    private static void drawsDue(int z, int n, int one, int other, int off) {
        // A HAT of 4 brings the one side from 14 to 2 or to 20, OFF it stays at 14: a DOOR tells which.
        HoistsAreShared x = told("th30;f14;d00;d05;d15;d20;d02;");
        due(34, "ON the one side by " + z + " in " + n, x.lots(n, z, 1), one);
        tell(x, "d02;d20;");
        due(34, "ON the other side by " + z + " in " + n, x.lots(n, z, 1), other);
        tell(x, "d20;d14;");
        due(34, "OFF by " + z + " in " + n, x.lots(n, z, 1), off);
        x.lifts(10);
        due(34, "level by " + z + " in " + n, x.lots(n, z, 0), off);
    }

    private static void lotsBySeeds() {
        // z 0: 1013904223 (by 256 3960563: OFF), 1196435762 (4673577: ON the one), ..
        drawsDue(0, 1, 0, 0, 1);
        drawsDue(0, 2, 1, 0, 1);
        drawsDue(0, 20, 10, 3, 7);
        // z -1: 1012239698 (3954061: ON the other), 806866057 (3151820: OFF), ..
        drawsDue(-1, 1, 0, 1, 0);
        drawsDue(-1, 2, 0, 1, 1);
        drawsDue(-1, 20, 6, 8, 6);
        // z 7: 1025555898 (4006077: ON the one), then -371543599: without its sign's bit 1775940049 (6937265: OFF).
        drawsDue(7, 1, 1, 0, 0);
        drawsDue(7, 2, 1, 0, 1);
        drawsDue(7, 20, 11, 2, 7);
        drawsDue(-7, 20, 8, 3, 9);
        drawsDue(1, 20, 9, 6, 5);
        // The least int is as 0 but for the sign's bit, which no DRAW sees; the greatest one likewise as -1.
        drawsDue(Integer.MIN_VALUE, 20, 10, 3, 7);
        drawsDue(Integer.MAX_VALUE, 20, 6, 8, 6);
        drawsDue(123456789, 20, 11, 6, 3);
        drawsDue(-123456789, 20, 8, 10, 2);
        drawsDue(-1013904223, 20, 3, 9, 8);
    }

    private static void lotsInOrder() {
        // By 0: OFF and ON the one; then ON the one and OFF. 0 leads to 2, 1 moves none.
        HoistsAreShared x = told("th31;th01;f14;d00;d05;d15;d20;d02;");
        due(34, "the first season", x.lots(1, 0, 1), 0);
        due(34, "each season from now, one seed through all", x.lots(2, 0, 1), 1);
        tell(x, "d02;d14;");
        due(34, "at 14 in the first", x.lots(1, 0, 1), 1);
        due(34, "at 2 in the second", x.lots(2, 0, 1), 1);
        due(34, "where 0 is, stays", x.thing(0, 2), 1);
        due(34, "DAY stays", x.count(1), 0);
        due(34, "FLOOR stays", x.count(2), 14);
        HoistsAreShared none = new HoistsAreShared();
        due(34, "no THINGS: 20 seasons level", none.lots(20, -1, 0), 20);
        none.lifts(0);
        due(34, "no THINGS: both at a DOOR in 20 seasons", none.lots(20, -1, 1), 40);
        due(34, "no THINGS: in 1 season", none.lots(1, -1, 1), 2);
        due(34, "0 seasons", none.lots(0, -1, 1), -4);
        due(34, "21 seasons", none.lots(21, -1, 1), -6);
        // By -1: 1, 2, 2, 0, 1, 2, 1, 1: the other side has 0, 4, 6, 7, the one side 3.
        HoistsAreShared eight = told("th02;th02;th02;th42;th02;th02;th02;th02;");
        due(34, "eight THINGS: 5 less 4", eight.lots(1, -1, 0), 1);
        eight.turn(3, 0, 6);
        due(34, "eight THINGS: 7 less 4", eight.lots(1, -1, 0), 1);
        eight.turn(3, 0, 7);
        due(34, "eight THINGS: 8 less 4", eight.lots(1, -1, 0), 0);
        due(34, "eight THINGS: at 0", eight.lots(1, -1, 1), 2);
        // 12 DAYS, not 11 and not 13: one down a DAY from 12 by PULL 4, without THINGS.
        HoistsAreShared days = told("b014;f20;d08;");
        due(34, "behind 12 DAYS at 8", days.lots(1, 0, 1), 1);
        // DAYS 1000 .. 1011: OFF in the first season, ON the one side in the second: PULL 4 on DAYS 1005 .. 1009, to 5.
        HoistsAreShared late = told("ts02;b011;");
        passDays(late, 999);
        due(34, "beyond the last DAY: level", late.lots(2, 0, 0), 1);
        due(34, "beyond the last DAY: at a DOOR", late.lots(2, 0, 1), 2);
    }

    // ---- 35, 36: THE IMAGE

    private static void image() {
        HoistsAreShared x = new HoistsAreShared();
        due(36, "none", x.on(), -3);
        due(35, "THE IMAGE of a new object", x.image(), 0);
        tell(x, "th50;f03;d03;b000;b101;n02;");
        due(36, "ON from it", x.on(), 0);
        due(36, "no THINGS", x.count(0), 0);
        due(36, "no THING 0", x.thing(0, 0), -1);
        due(36, "FLOOR", x.count(2), 10);
        due(36, "DOORS", x.count(3), FIRST_DOORS);
        due(36, "BALLAST", x.side(0, 1), 10);
        due(36, "the other's BALLAST", x.side(1, 1), 10);
        tell(x, "tl61;");
        due(36, "a THING more is the first", x.thing(0, 0), 1);
        // THE IMAGE is taken anew; a FAULT and a REFUSAL leave it.
        due(35, "THE IMAGE with a THING", x.image(), 0);
        x.days(60);
        due(3, "a FAULT", tell(x, "h10;"), -2000);
        due(36, "ON from the newer one", x.on(), 0);
        due(36, "one THING", x.count(0), 1);
        due(36, "SINCE", x.thing(0, 3), 0);
        // All eight THINGS come on as they were.
        HoistsAreShared y = full("");
        y.days(3);
        y.image();
        for (int i = 0; i < 8; i++) {
            y.hangs(i, 1);
            y.turn(i, 5, i);
        }
        y.days(50);
        due(36, "DAY", y.on(), 3);
        for (int i = 0; i < 8; i++) {
            due(36, "where " + i + " was", y.thing(i, 2), 0);
            due(36, "KIND of " + i, y.thing(i, 0), i == 7 ? 4 : 0);
            due(36, "FIGURE of " + i, y.thing(i, 1), i == 7 ? 9 : 0);
            due(36, "SINCE of " + i, y.thing(i, 3), 0);
        }
        // The ROW, letters and REFUSALS are as now, not as then.
        y.row(5);
        spell(y, "f2");
        y.lifts(21);
        due(36, "ON again", y.on(), 3);
        due(36, "the ROW", y.count(6), 1);
        due(36, "letters", y.count(7), 2);
        due(36, "REFUSALS", y.count(11), 1);
        y.clear();
        due(36, "the letters go on", tell(y, "0;"), 1);
        due(36, "what they told", y.count(2), 20);
    }

    /** THINGS told behind THE IMAGE are no more ON from it, for whichever call. */
    private static void thingsNoMore() {
        HoistsAreShared x = told("th30;");
        x.image();
        tell(x, "th31;th32;b150;");
        due(36, "ON", x.on(), 0);
        int[] answers = {
            x.thing(1, 0), x.hangs(1, 0), x.turn(1, 0, 0), x.weighsThen(1, 0), x.mustWeigh(1, 0, 5), x.bestKind(1, 5, 0),
            x.two(0, 1, 5), x.two(1, 0, 5), x.whatIs(1, 0),
        };
        for (int i = 0; i < answers.length; i++) {
            due(36, "NOBODY, call " + i, answers[i], -1);
        }
        due(36, "REFUSALS -1", x.count(11), answers.length);
        fillRow(x, 4, 0);
        due(36, "JUDGED: none there, not one that weighs 0", x.judge(), 1);
        due(36, "no such THING", tell(x, "h10;"), -2000);
        due(36, "MEAN of one", x.mean(0), 4);
        due(36, "HEAVIEST", x.heaviest(0), 0);
        due(36, "THINGS ON the other", x.side(1, 3), 0);
        due(36, "THINGS OFF", x.count(4), 0);
        due(36, "PULL", x.pull(0), 4);
        due(36, "take", x.take(9), 0);
        due(36, "hang", x.hang(9), -9);
        due(36, "change", x.change(), -9);
        due(36, "a THING more", tell(x, "tl12;"), 1);
        due(36, "it is the second", x.thing(1, 0), 1);
        due(36, "it can be hung: PULL 0", x.hang(9), 11);
        // THINGS come on again where they were.
        HoistsAreShared y = told("th02;th02;");
        y.image();
        tell(y, "h00;h10;");
        y.on();
        due(36, "OFF again", y.count(4), 3);
    }

    // ---- 37: count

    private static void counts() {
        HoistsAreShared x = full("h02;h72;");
        due(37, "THINGS", x.count(0), 8);
        due(37, "THINGS OFF", x.count(4), 129);
        due(37, "what all weigh, OFF too", x.count(5), 30);
        due(37, "letters behind hoist()", x.count(7), 0);
        x.letter(';');
        due(37, "letters", x.count(7), 1);
        int[] others = {Integer.MIN_VALUE, -11, -1, 8, 9, 10, 17, 26, Integer.MAX_VALUE};
        for (int what : others) {
            due(37, "count(" + what + ")", x.count(what), -9);
        }
        due(37, "-5 is never answered", x.count(15), 0);
        HoistsAreShared y = told("n04;ts32;n01;");
        due(37, "what all weigh on DAY 5", y.count(5), 12);
    }

    /** -9 is an answer, and so is a FAULT: neither is a REFUSAL. */
    private static void noneIsNoRefusal() {
        HoistsAreShared x = told("d00;d05;d15;d20;b014;th92;");
        int[] answers = {
            x.comes(0, 11), x.door(0), x.door(1), x.change(), x.side(0, 4), x.side(0, 5), x.take(30), x.hang(0),
            x.mustWeigh(0, 0, 30), x.judge(), x.count(8),
        };
        for (int i = 0; i < answers.length; i++) {
            due(37, "answer " + i, answers[i], -9);
        }
        x.lifts(9);
        due(15, "MEET no more", x.meets(), -9);
        HoistsAreShared y = new HoistsAreShared();
        due(17, "never", y.strikes(0), -9);
        due(26, "no HEAVIEST", y.heaviest(0), -9);
        due(26, "no LIGHTEST", y.heaviest(1), -9);
        due(3, "a FAULT", y.hoist(), -1000);
        for (int what = 11; what <= 16; what++) {
            due(37, "count(" + what + ")", x.count(what), 0);
            due(37, "count(" + what + ")", y.count(what), 0);
        }
    }
}
