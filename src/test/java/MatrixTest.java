/** Promises 10 and 11: rank, motion. */
public final class MatrixTest {
    private static final int BAD = LinkageCurves.BAD;
    private static final long P = 1000003;
    private static final Check CHECK = new Check();

    public static void main(String[] args) {
        ranks("nothing", "", 0, 0, 0);
        ranks("ground only", "ground a 0 0;ground b 1 1;bar a b;", 0, 0, 1);
        ranks("one bar", "joint a 0 0;joint b 3 4;bar a b;", 1, 3, 0);
        ranks("a loose joint", "joint a 0 0;", 0, 2, 0);
        ranks("three on a line", "joint a 0 0;joint b 1 0;joint c 2 0;frame a b c;", 2, 4, 1);
        // All nine BARS are NEEDED by counts, but six joints on two lines move a little.
        ranks("six on two lines", "joint a 0 0;joint b 3 0;joint c 8 0;joint u 1 1;joint v 4 1;joint w 6 1;"
            + "chain a u b v c w a v;chain b w;bar c u;", 8, 4, 1);
        ranks("three parallel bars", "ground a 0 0;ground b 1 0;ground c 3 0;joint u 0 5;joint v 1 5;joint w 3 5;"
            + "bar a u;bar b v;bar c w;chain u v w;bar u w;", 5, 1, 1);
        oneBar();
        crank();
        motionsHold();
        bad();
        CHECK.end();
    }

    private static void ranks(String what, String text, int rank, int motions, int stresses) {
        Desk x = Desk.of(text);
        CHECK.due(what + ": rank", x.rank(0), rank);
        CHECK.due(what + ": motions", x.rank(1), motions);
        CHECK.due(what + ": stresses", x.rank(2), stresses);
    }

    /** The row -3 -4 3 4 leads in column 0: 1, 4/3, -1, -4/3. */
    private static void oneBar() {
        Desk x = Desk.of("joint a 0 0;joint b 3 4;bar a b;");
        long third = 666669;
        long[][] due = {{Math.floorMod(-4 * third, P), 1, 0, 0}, {1, 0, 1, 0}, {Math.floorMod(4 * third, P), 0, 0, 1}};
        for (int k = 0; k < 3; k++) {
            for (int i = 0; i < 4; i++) {
                CHECK.due("one bar: motion " + k + " " + i, x.motion(k, i / 2, i % 2), due[k][i]);
            }
        }
    }

    /** GROUND stands still; columns are those of the other JOINTS alone. */
    private static void crank() {
        Desk x = Desk.of("joint p 9 9;ground a 0 0;joint c 5 0;bar a c;");
        CHECK.due("crank: motions", x.rank(1), 3);
        long[][] due = {{1, 0, 0, 0, 0, 0}, {0, 1, 0, 0, 0, 0}, {0, 0, 0, 0, 0, 1}};
        for (int k = 0; k < 3; k++) {
            for (int i = 0; i < 6; i++) {
                CHECK.due("crank: motion " + k + " " + i, x.motion(k, i / 2, i % 2), due[k][i]);
            }
        }
    }

    private static void motionsHold() {
        int[][] places = {{-977, 31}, {419, -800}, {1000, 1000}, {-1000, 999}, {3, -7}, {11, 640}};
        int[][] bars = {{0, 1}, {1, 2}, {2, 3}, {3, 4}, {4, 5}, {4, 1}};
        Desk x = Desk.of("ground a -977 31;joint b 419 -800;joint c 1000 1000;ground d -1000 999;joint e 3 -7;"
            + "joint f 11 640;chain a b c d e f;bar e b;");
        int motions = x.rank(1);
        CHECK.due("six bars: motions", motions, 8 - x.rank(0));
        for (int k = 0; k < motions; k++) {
            long all = 0;
            for (int[] bar : bars) {
                CHECK.due("motion " + k + " at bar " + bar[0] + " " + bar[1], along(x, k, bar, places), 0);
            }
            for (int joint = 0; joint < places.length; joint++) {
                all += x.motion(k, joint, 0) + x.motion(k, joint, 1);
            }
            CHECK.holds("motion " + k + " moves", all > 0);
        }
    }

    private static long along(Desk x, int k, int[] bar, int[][] places) {
        long sum = 0;
        for (int axis = 0; axis < 2; axis++) {
            long apart = places[bar[0]][axis] - places[bar[1]][axis];
            sum += apart * (x.motion(k, bar[0], axis) - x.motion(k, bar[1], axis));
        }
        return Math.floorMod(sum, P);
    }

    private static void bad() {
        Desk x = Desk.of("ground a 0 0;joint b 3 4;bar a b;");
        for (int n : new int[] {-1, 3, Integer.MIN_VALUE, Integer.MAX_VALUE}) {
            CHECK.due("rank " + n, x.rank(n), BAD);
            CHECK.due("motion " + n + " 0 0", x.motion(n, 0, 0), BAD);
            CHECK.due("motion 0 " + n + " 0", x.motion(0, n, 0), BAD);
            CHECK.due("motion 0 0 " + n, x.motion(0, 0, n), BAD);
        }
        CHECK.due("motion 1 1 1", x.motion(1, 1, 1), BAD);
        CHECK.due("motion 0 2 0", x.motion(0, 2, 0), BAD);
        CHECK.due("motion 0 1 2", x.motion(0, 1, 2), BAD);
        CHECK.due("motion 0 0 1", x.motion(0, 0, 1), 0);
    }
}
