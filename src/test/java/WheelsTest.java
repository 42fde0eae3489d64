/** Promises 20 to 22: ratio, lock, fourBars. */
public final class WheelsTest {
    private static final int NONE = LinkageCurves.NONE, BAD = LinkageCurves.BAD;
    private static final String JOINTS = "joint i 0 0;joint j 1 1;";
    private static final Check CHECK = new Check();

    public static void main(String[] args) {
        kinds();
        firstCouplingReaches();
        great();
        edgeOfGreat();
        locks();
        locksApart();
        fourBars();
        bad();
        CHECK.end();
    }

    private static void ratio(Desk x, int a, int b, long upper, long lower) {
        CHECK.due("ratio " + a + " " + b + " upper", x.ratio(a, b, 0), upper);
        CHECK.due("ratio " + a + " " + b + " lower", x.ratio(a, b, 1), lower);
    }

    private static void kinds() {
        Desk x = Desk.of(JOINTS + "wheel a at i 12;wheel b at j 30;wheel c at j 8;wheel d at i 20;wheel e at i 5;"
            + "mesh a b;shaft c b;belt c d;");
        ratio(x, 0, 0, 1, 1);
        ratio(x, 0, 1, -2, 5);
        ratio(x, 1, 0, -5, 2);
        ratio(x, 0, 2, -2, 5);
        ratio(x, 0, 3, -4, 25);
        ratio(x, 3, 0, -25, 4);
        ratio(x, 3, 2, 5, 2);
        ratio(x, 0, 4, NONE, NONE);
        ratio(x, 4, 0, NONE, NONE);
        ratio(x, 4, 4, 1, 1);
        CHECK.due("no lock", x.lock(), NONE);
    }

    /** Two ways from a to c: that of the COUPLINGS that come first counts. */
    private static void firstCouplingReaches() {
        Desk x = Desk.of(JOINTS + "wheel a at i 10;wheel b at j 20;wheel c at i 40;"
            + "shaft b c;mesh a b;belt c a;");
        ratio(x, 0, 1, -1, 2);
        ratio(x, 0, 2, -1, 2);
        // From c the belt is behind the mesh, which is reached through the shaft.
        ratio(x, 2, 0, -2, 1);
        CHECK.due("the belt locks", x.lock(), 2);
    }

    /** n pairs of WHEELS, each 200 to 3 and on the shaft of the next one. */
    private static String pairs(int n, int teeth) {
        StringBuilder b = new StringBuilder(JOINTS);
        for (int i = 0; i < n; i++) {
            b.append("wheel a").append((char) ('a' + i)).append(" at i ").append(teeth).append(";wheel b")
                .append((char) ('a' + i)).append(" at j 3;");
        }
        for (int i = 0; i < n; i++) {
            b.append("mesh a").append((char) ('a' + i)).append(" b").append((char) ('a' + i)).append(';');
            if (i > 0) {
                b.append("shaft a").append((char) ('a' + i)).append(" b").append((char) ('a' + i - 1)).append(';');
            }
        }
        return b.toString();
    }

    private static void great() {
        Desk x = Desk.of(pairs(8, 200) + "belt bh aa;");
        ratio(x, 0, 1, -200, 3);
        ratio(x, 0, 9, -320000000000L, 243);
        ratio(x, 0, 10, -320000000000L, 243);
        ratio(x, 0, 11, 0, 0);
        ratio(x, 0, 12, 0, 0);
        ratio(x, 0, 15, 0, 0);
        // Back from the last one the lower number is too great; the belt comes too late.
        ratio(x, 15, 14, -3, 200);
        ratio(x, 15, 0, 0, 0);
        CHECK.due("a great one does not lock", x.lock(), NONE);
    }

    /** 10^12 itself is not GREAT, on either side of 0. */
    private static void edgeOfGreat() {
        StringBuilder b = new StringBuilder(JOINTS);
        int[] teeth = {100, 3, 100, 3, 100, 3, 100, 3, 100, 3, 100, 3, 3, 6, 3, 9};
        for (int i = 0; i < 16; i++) {
            b.append("wheel w").append((char) ('a' + i)).append(i % 2 == 0 ? " at i " : " at j ").append(teeth[i]).append(';');
        }
        for (int i = 1; i < 12; i++) {
            b.append(i % 2 == 1 ? "mesh w" : "shaft w").append((char) ('a' + i)).append(" w").append((char) ('a' + i - 1)).append(';');
        }
        Desk x = Desk.of(b + "shaft wl wm;belt wn wm;");
        ratio(x, 0, 11, 1000000000000L, 729);
        ratio(x, 0, 12, 1000000000000L, 729);
        ratio(x, 0, 13, 500000000000L, 729);
        ratio(x, 11, 0, 729, 1000000000000L);
        ratio(x, 0, 14, NONE, NONE);
        // 10^12 6 / 3 is above: GREAT, and so is what it reaches, though less again.
        x = Desk.of(b + "shaft wl wn;belt wn wm;mesh wm wp;");
        ratio(x, 0, 13, 1000000000000L, 729);
        ratio(x, 0, 12, 0, 0);
        ratio(x, 0, 15, 0, 0);
        ratio(x, 13, 12, 2, 1);
        x = Desk.of(b + "mesh wl wm;");
        ratio(x, 0, 12, -1000000000000L, 729);
    }

    private static void locks() {
        String three = JOINTS + "joint k 5 5;wheel a at i 10;wheel b at j 20;wheel c at k 40;";
        CHECK.due("three in a ring lock", Desk.of(three + "mesh a b;mesh b c;mesh c a;").lock(), 2);
        CHECK.due("with a belt they turn", Desk.of(three + "mesh a b;mesh b c;belt c a;").lock(), NONE);
        CHECK.due("the first that fails", Desk.of(three + "mesh a b;belt b a;mesh b a;shaft a b;").lock(), 1);
        CHECK.due("shaft of two sizes", Desk.of(three + "belt a b;shaft b a;").lock(), 1);
        CHECK.due("shaft and belt of one size",
            Desk.of(three + "wheel d at i 10;belt a d;shaft d a;").lock(), NONE);
        CHECK.due("no couplings", Desk.of(three).lock(), NONE);
        CHECK.due("a coupling reached late fails, though it comes first",
            Desk.of(three + "belt b c;mesh a b;shaft a c;").lock(), 2);
    }

    /** Two trains: the first COUPLING of all that fails, not that of the least WHEEL's train. */
    private static void locksApart() {
        String four = JOINTS + "wheel a at i 10;wheel b at j 20;wheel c at i 40;wheel d at j 7;";
        CHECK.due("train of c d first", Desk.of(four + "mesh c d;belt c d;mesh a b;belt a b;").lock(), 1);
        CHECK.due("train of a b first", Desk.of(four + "mesh c d;mesh a b;belt a b;belt c d;").lock(), 2);
        CHECK.due("none", Desk.of(four + "mesh c d;mesh a b;mesh b a;mesh d c;").lock(), NONE);
        // The way to the last pair is GREAT from aa on, so what fails there is not seen.
        Desk x = Desk.of(pairs(8, 199) + "belt ah bh;");
        CHECK.due("great: not seen", x.lock(), NONE);
        x = Desk.of(pairs(8, 199) + "belt ah bh;belt aa ba;");
        CHECK.due("great: one that is not", x.lock(), 16);
    }

    private static void fourBars() {
        int[][] due = {{1, 1, 1, 3, 0}, {10, 2, 3, 5, 0}, {2, 3, 11, 5, 0}, {1, 1, 1, 1, 2}, {10000, 10000, 10000, 10000, 2},
            {5, 5, 5, 4, 6}, {4, 5, 5, 5, 3}, {5, 4, 5, 5, 4}, {5, 5, 4, 5, 5}, {4, 4, 5, 5, 2}, {2, 2, 3, 2, 1},
            {7, 2, 5, 6, 4}, {2, 7, 6, 5, 3}, {6, 5, 2, 7, 5}, {6, 7, 5, 2, 6}, {3, 7, 5, 5, 2}, {4, 8, 5, 6, 1},
            {4, 2, 2, 3, 1}, {9999, 3, 3, 9999, 2}, {10000, 3333, 3333, 3334, 0}, {10000, 3334, 3333, 3334, 1},
            {10, 4, 10, 9, 4}, {9, 9, 9, 9, 2}, {1, 10000, 10000, 10000, 3}};
        for (int[] d : due) {
            CHECK.due("fourBars " + d[0] + " " + d[1] + " " + d[2] + " " + d[3],
                new Desk().fourBars(d[0], d[1], d[2], d[3]), d[4]);
        }
        for (int a = 1; a <= 7; a++) {
            for (int b = 1; b <= 7; b++) {
                for (int c = 1; c <= 49; c++) {
                    int e = 1 + c % 7;
                    int d = 1 + c / 7 % 7;
                    CHECK.due("fourBars " + a + " " + b + " " + d + " " + e,
                        new Desk().fourBars(a, b, d, e), Model.fourBars(a, b, d, e));
                }
            }
        }
    }

    private static void bad() {
        Desk x = Desk.of(JOINTS + "wheel a at i 10;wheel b at j 20;mesh a b;");
        for (int n : new int[] {-1, 2, Integer.MIN_VALUE, Integer.MAX_VALUE}) {
            CHECK.due("ratio " + n + " 0 0", x.ratio(n, 0, 0), BAD);
            CHECK.due("ratio 0 " + n + " 0", x.ratio(0, n, 0), BAD);
            CHECK.due("ratio 0 0 " + n, x.ratio(0, 0, n), BAD);
        }
        for (int n : new int[] {0, -1, 10001, Integer.MIN_VALUE, Integer.MAX_VALUE}) {
            CHECK.due("fourBars " + n + " 1 1 1", x.fourBars(n, 1, 1, 1), BAD);
            CHECK.due("fourBars 1 " + n + " 1 1", x.fourBars(1, n, 1, 1), BAD);
            CHECK.due("fourBars 1 1 " + n + " 1", x.fourBars(1, 1, n, 1), BAD);
            CHECK.due("fourBars 1 1 1 " + n, x.fourBars(1, 1, 1, n), BAD);
        }
    }
}
