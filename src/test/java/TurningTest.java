/** Promises 12 to 19: pose, at, why, order, flip, trace, curve, told. */
public final class TurningTest {
    private static final int NONE = LinkageCurves.NONE, BAD = LinkageCurves.BAD, STATE = LinkageCurves.STATE;
    private static final String FOUR = "ground a 0 0;ground b 40 0;joint c 0 10;joint d 40 30;chain a c d b;drive c about a;";
    private static final Check CHECK = new Check();

    public static void main(String[] args) {
        crankAlone();
        fourBars();
        order();
        sides();
        reasons();
        curves();
        states();
        bad();
        unfolding();
        againstModel("four", FOUR, "");
        againstModel("far", strip(), "");
        againstModel("far, unfolded", strip(), "all");
        againstModel("far, half unfolded", strip(), "odd");
        CHECK.end();
    }

    private static void place(Desk x, String what, int joint, long atX, long atY) {
        CHECK.due(what + ": x of " + joint, x.at(joint, 0), atX);
        CHECK.due(what + ": y of " + joint, x.at(joint, 1), atY);
    }

    private static void crankAlone() {
        Desk x = Desk.of("joint b 7 -3;ground a 2 -5;bar b a;drive b about a;");
        CHECK.due("crank: pose 0", x.pose(0), 2);
        place(x, "crank 0", 1, 2048, -5120);
        place(x, "crank 0", 0, 7168, -3072);
        CHECK.due("crank: pose 64", x.pose(64), 2);
        place(x, "crank 64", 0, 0, 0);
        CHECK.due("crank: pose 128", x.pose(128), 2);
        place(x, "crank 128", 0, 2048 - 5120, -5120 - 2048);
        CHECK.due("crank: pose 192", x.pose(192), 2);
        place(x, "crank 192", 0, 2048 + 2048, -5120 - 5120);
        // m = 1: c is 65536 4095 / 4097, 65504.007; d is 8388608 / 4097, 2047.5.
        CHECK.due("crank: pose 1", x.pose(1), 2);
        place(x, "crank 1", 0, 2048 + Math.floorDiv(65504 * 5 - 2047 * 2, 64), -5120 + Math.floorDiv(2047 * 5 + 65504 * 2, 64));
        CHECK.due("crank: pose 65", x.pose(65), 2);
        place(x, "crank 65", 0, 2048 + Math.floorDiv(-2047 * 5 - 65504 * 2, 64),
            -5120 + Math.floorDiv(65504 * 5 - 2047 * 2, 64));
    }

    private static void fourBars() {
        Desk x = Desk.of(FOUR);
        CHECK.due("four: pose 0", x.pose(0), 4);
        place(x, "four 0", 3, 40959, 30720);
        CHECK.due("four: pose 64", x.pose(64), 4);
        CHECK.due("four: at step 64", x.at(3, 0), 26623);
        CHECK.due("four: why", x.why(3), 0);
        CHECK.due("flip", x.flip(3), -1);
        CHECK.due("the pose stays", x.at(3, 0), 26623);
        CHECK.due("four: pose 0 flipped", x.pose(0), 4);
        place(x, "four 0 flipped", 3, 26502, -27106);
        CHECK.due("flip back", x.flip(3), 1);
        CHECK.due("four: pose 0 again", x.pose(0), 4);
        place(x, "four 0 again", 3, 40959, 30720);
    }

    /** The least number that can comes each time; A and B by the numbers of BARS. */
    private static void order() {
        Desk x = Desk.of("joint p 9 9;joint q 3 8;joint c 0 5;ground a 0 0;ground b 9 0;joint r 4 4;joint l 1 1;"
            + "bar a c;bar p q;bar b p;bar c q;bar q b;bar r b;bar r q;bar p r;bar l a;drive c about a;");
        int[][] due = {{1, 2, 4}, {0, 1, 4}, {5, 4, 1}};
        for (int k = 0; k < 3; k++) {
            for (int what = 0; what < 3; what++) {
                CHECK.due("order " + k + " " + what, x.order(k, what), due[k][what]);
            }
        }
        CHECK.due("order 3", x.order(3, 0), NONE);
        CHECK.due("order -1", x.order(-1, 0), NONE);
        CHECK.due("order far", x.order(Integer.MAX_VALUE, 2), NONE);
        CHECK.due("pose", x.pose(0), 6);
        CHECK.due("loose", x.why(6), 1);
        CHECK.due("loose at", x.at(6, 0), NONE);
        CHECK.due("loose flip", x.flip(6), STATE);
        CHECK.due("loose trace", x.trace(6), 0);
        for (int what = 0; what < 5; what++) {
            CHECK.due("loose told " + what, x.told(what), what == 0 ? 0 : NONE);
        }
        CHECK.due("loose curve", x.curve(17, 1), NONE);
        x = Desk.of("ground a 0 0;ground b 9 0;joint c 0 5;joint d 9 5;bar d b;bar a c;bar c d;drive c about a;");
        CHECK.due("by the first bar of all", x.order(0, 1), 1);
        CHECK.due("then by the last one", x.order(0, 2), 2);
    }

    private static void sides() {
        String frame = "ground a 0 0;joint c 10 0;ground b 20 0;";
        String bars = "bar a c;bar d c;bar d b;drive c about a;";
        CHECK.due("above is 1, so -1", Desk.of(frame + "joint d 15 3;" + bars).flip(3), -1);
        CHECK.due("below is -1, so 1", Desk.of(frame + "joint d 15 -3;" + bars).flip(3), 1);
        CHECK.due("between is 1, so -1", Desk.of(frame + "joint d 14 0;" + bars).flip(3), -1);
        Desk x = Desk.of(frame + "joint d 15 -3;" + bars);
        CHECK.due("pose", x.pose(0), 4);
        // At the told places again but for what DOWN takes away.
        CHECK.holds("it is below", Math.abs(x.at(3, 1) + 3072) <= 2 && Math.abs(x.at(3, 0) - 15360) <= 2);
    }

    private static void reasons() {
        // c turns about a; d can not reach both c and b all the time; e hangs on d, f on e.
        Desk x = Desk.of("ground a 0 0;ground b 30 0;joint c 10 0;joint d 20 5;joint e 20 15;joint f 5 20;"
            + "chain a c d b;bar e d;bar e b;bar f e;bar f a;drive c about a;");
        CHECK.due("near: pose", x.pose(0), 6);
        CHECK.due("far: pose", x.pose(128), 3);
        int[] due = {0, 0, 0, 2, 3, 3};
        for (int i = 0; i < 6; i++) {
            CHECK.due("far: why " + i, x.why(i), due[i]);
            CHECK.due("far: at " + i, x.at(i, 1) == NONE ? 1 : 0, due[i] == 0 ? 0 : 1);
        }
        CHECK.due("far: at 3 x", x.at(3, 0), NONE);
        // c comes to b's place; circles of one size meet there, but D is below 2^20 from near on.
        x = Desk.of("ground a 0 0;ground b 0 10;joint c 10 0;joint d 10 10;chain a c d b;drive c about a;");
        CHECK.due("onto b: pose 55", x.pose(55), 4);
        CHECK.due("onto b: pose 63", x.pose(63), 3);
        CHECK.due("onto b: why", x.why(3), 2);
        CHECK.due("onto b: pose 64", x.pose(64), 3);
        CHECK.due("onto b: why", x.why(3), 2);
        // 1 apart is D = 2^20 to the point.
        x = Desk.of("ground a 0 0;ground b 0 11;joint c 0 10;joint d 5 10;bar a c;bar d b;bar d c;drive c about a;");
        CHECK.due("1 apart: pose", x.pose(0), 4);
        place(x, "1 apart", 3, 5120, 10240);
    }

    private static void curves() {
        Desk x = Desk.of(FOUR);
        CHECK.due("pose", x.pose(64), 4);
        CHECK.due("trace", x.trace(3), 256);
        CHECK.due("the pose stays", x.at(3, 0), 26623);
        CHECK.due("told 0", x.told(0), 0);
        CHECK.due("told 1", x.told(1), 91);
        CHECK.due("told 2", x.told(2), 211);
        CHECK.due("told 3", x.told(3), 91);
        CHECK.due("told 4", x.told(4), 0);
        CHECK.due("curve 0 0", x.curve(0, 0), 40959);
        CHECK.due("curve 200 1", x.curve(200, 1), 30238);
        CHECK.due("flip", x.flip(3), -1);
        CHECK.due("the curve stays", x.curve(0, 0), 40959);
        CHECK.due("trace anew", x.trace(3), 256);
        CHECK.due("curve anew", x.curve(0, 0), 26502);
        CHECK.due("trace of ground", x.trace(1), 256);
        for (int what = 0; what < 5; what++) {
            CHECK.due("ground: told " + what, x.told(what), 0);
        }
        CHECK.due("trace of the driven", x.trace(2), 256);
        int[] due = {0, 64, 192, 128, 0};
        for (int what = 0; what < 5; what++) {
            CHECK.due("driven: told " + what, x.told(what), due[what]);
        }
        x = Desk.of("ground a 0 0;ground b 30 0;joint c 10 0;joint d 20 5;chain a c d b;drive c about a;");
        int placed = x.trace(3);
        CHECK.holds("at some steps", placed > 0 && placed < 256);
        CHECK.due("it comes back once", x.told(0), 1);
        int count = 0;
        for (int step = 0; step < 256; step++) {
            Desk y = x.again();
            long atX = y.curve(step, 0);
            count += atX == NONE ? 0 : 1;
            CHECK.due("curve " + step + " as pose", y.pose(step), atX == NONE ? 3 : 4);
            CHECK.due("curve " + step + " x as at", y.at(3, 0), atX);
            CHECK.due("curve " + step + " y as at", y.at(3, 1), y.curve(step, 1));
        }
        CHECK.due("so many", placed, count);
        // Stretched at STEP 0, out of reach at the one ahead of it, 255.
        x = Desk.of("ground a 0 0;ground b -40 0;joint c 0 10;joint d -20 5;chain a c d b;drive c about a;");
        CHECK.holds("stretched: some", x.trace(3) > 1);
        CHECK.due("stretched: at 0", x.curve(0, 0), -20480);
        CHECK.due("stretched: at 255", x.curve(255, 0), NONE);
        CHECK.holds("stretched: at 1", x.curve(1, 0) != NONE);
        CHECK.due("stretched: begins at 0", x.told(0), 1);
    }

    private static void states() {
        Desk x = Desk.of("ground a 0 0;joint b 5 0;bar a b;");
        CHECK.due("none driven: pose", x.pose(0), STATE);
        CHECK.due("none driven: at", x.at(0, 0), STATE);
        CHECK.due("none driven: why", x.why(0), STATE);
        CHECK.due("none driven: order", x.order(0, 0), STATE);
        CHECK.due("none driven: flip", x.flip(1), STATE);
        CHECK.due("none driven: trace", x.trace(1), STATE);
        CHECK.due("none driven: curve", x.curve(0, 0), STATE);
        CHECK.due("none driven: told", x.told(0), STATE);
        x = Desk.of(FOUR);
        CHECK.due("no pose: at", x.at(0, 0), STATE);
        CHECK.due("no pose: why", x.why(0), STATE);
        CHECK.due("no curve: curve", x.curve(0, 0), STATE);
        CHECK.due("trace", x.trace(0), 256);
        CHECK.due("trace is no pose", x.at(0, 0), STATE);
        CHECK.due("pose", x.pose(3), 4);
        CHECK.due("ground does not hang", x.flip(0), STATE);
        CHECK.due("the driven does not hang", x.flip(2), STATE);
    }

    private static void bad() {
        for (String text : new String[] {"", FOUR}) {
            Desk x = Desk.of(text);
            for (int n : new int[] {-1, 256, Integer.MIN_VALUE, Integer.MAX_VALUE}) {
                CHECK.due("pose " + n, x.pose(n), BAD);
                CHECK.due("at " + n, x.at(n, 0), BAD);
                CHECK.due("at 0 " + n, x.at(0, n), BAD);
                CHECK.due("why " + n, x.why(n), BAD);
                CHECK.due("order 0 " + n, x.order(0, n), BAD);
                CHECK.due("flip " + n, x.flip(n), BAD);
                CHECK.due("trace " + n, x.trace(n), BAD);
                CHECK.due("curve " + n, x.curve(n, 0), BAD);
                CHECK.due("curve 0 " + n, x.curve(0, n), BAD);
                CHECK.due("told " + n, x.told(n), BAD);
            }
            CHECK.due("at 4", x.at(4, 0), BAD);
            CHECK.due("at 0 2", x.at(0, 2), BAD);
            CHECK.due("order 0 3", x.order(0, 3), BAD);
            CHECK.due("told 5", x.told(5), BAD);
        }
    }

    /** A strip of great triangles, folded; unfolded by flips it reaches so far that squares need many bits. */
    private static String strip() {
        int[] xs = {-1000, 1000 - 22, 0};
        int[] ys = {-1000, -1000, 1000 - 22};
        StringBuilder b = new StringBuilder();
        for (int i = 0; i < 23; i++) {
            b.append(i == 0 ? "ground " : "joint ").append((char) ('a' + i)).append(' ').append(xs[i % 3] + i).append(' ')
                .append(ys[i % 3] + (i * i) % 23).append(';');
        }
        b.append("chain");
        for (int i = 0; i < 23; i++) {
            b.append(' ').append((char) ('a' + i));
        }
        for (int first = 0; first < 2; first++) {
            b.append(";chain");
            for (int i = first; i < 23; i += 2) {
                b.append(' ').append((char) ('a' + i));
            }
        }
        return b.append(";drive b about a;joint x 1000 0;bar x a;bar w x;").toString();
    }

    private static void unfolding() {
        Desk x = Desk.of(strip());
        for (int joint = 3; joint < 23; joint += 2) {
            x.flip(joint);
        }
        CHECK.due("unfolded: pose", x.pose(9), 23);
        long dx = x.at(22, 0) - x.at(0, 0);
        long dy = x.at(22, 1) - x.at(0, 1);
        CHECK.holds("unfolded: D above 2^47", dx * dx + dy * dy > 1L << 47);
        CHECK.due("unfolded: why", x.why(23), 2);
    }

    private static void againstModel(String what, String text, String flips) {
        Desk x = Desk.of(text);
        Model model = new Model();
        for (char c : text.toCharArray()) {
            model.feed(1, c);
        }
        model.read();
        int joints = x.count(0);
        for (int joint = 2; joint < joints && !flips.isEmpty(); joint++) {
            if (flips.equals("all") || joint % 2 == 1) {
                CHECK.due(what + ": flip " + joint, x.flip(joint), model.flip(joint));
            }
        }
        for (int step = 0; step < 256; step += 5) {
            Desk y = x.again();
            CHECK.due(what + ": pose " + step, y.pose(step), model.pose(step));
            for (int joint = 0; joint < joints; joint++) {
                CHECK.due(what + ": x " + step + " " + joint, y.at(joint, 0), model.at(joint, 0));
                CHECK.due(what + ": y " + step + " " + joint, y.at(joint, 1), model.at(joint, 1));
                CHECK.due(what + ": why " + step + " " + joint, y.why(joint), model.why(joint));
            }
        }
        CHECK.due(what + ": trace", x.trace(joints - 1), model.trace(joints - 1));
        for (int i = 0; i < 5; i++) {
            CHECK.due(what + ": told " + i, x.told(i), model.told(i));
        }
    }
}
