/** What the tests share: an answer held against the one that is due, and short ways to bring an object somewhere. */
public class Due {
    static final int FIRST_DOORS = 1 | 1 << 5 | 1 << 15 | 1 << 20;
    static final int PULL_REFUSED = 1000000000;
    static final long LONG_REFUSED = 4000000000000000000L;
    private static int wrong = 0;
    private static int looked = 0;

    static void due(int promise, String what, long got, long want) {
        looked++;
        if (got != want) {
            wrong++;
            System.out.println("promise " + promise + ": " + what + " answered " + got + ", due is " + want);
        }
    }

    static void end() {
        System.out.println(looked + " answers looked at, " + wrong + " not as due");
        if (wrong != 0) {
            System.exit(1);
        }
    }

    static void spell(HoistsAreShared x, String text) {
        for (int i = 0; i < text.length(); i++) {
            x.letter(text.charAt(i));
        }
    }

    static int tell(HoistsAreShared x, String text) {
        spell(x, text);
        return x.hoist();
    }

    static HoistsAreShared told(String text) {
        HoistsAreShared x = new HoistsAreShared();
        int answer = tell(x, text);
        if (answer <= 0) {
            throw new IllegalStateException("the test's own text has a FAULT: " + text + " " + answer);
        }
        return x;
    }

    static void passDays(HoistsAreShared x, int days) {
        int left = days;
        while (left > 0) {
            int n = Math.min(left, 60);
            x.days(n);
            left -= n;
        }
    }

    static void fillRow(HoistsAreShared x, int... numbers) {
        for (int v : numbers) {
            x.row(v);
        }
    }
}
