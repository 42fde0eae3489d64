/** The edges that '4 TURNING' and promises 12 to 19 name. */
public final class TurningEdgesTest {
    private static final int NONE = LinkageCurves.NONE, BAD = LinkageCurves.BAD, STATE = LinkageCurves.STATE;
    private static final int[] FAR = {-1, Integer.MIN_VALUE, Integer.MAX_VALUE};
    /** A crank apart, so that JOINTS 2 and on may HANG on GROUND alone. */
    private static final String CRANK = "ground o 900 900;joint m 901 900;bar m o;drive m about o;";
    /** d is placed at STEPS 0 and 255, but not at 128; e HANGS on it, l is LOOSE. */
    private static final String NEAR = Rich.DRIVEN;
    /** d is placed at STEP 0, stretched, but not at the one ahead, 255. */
    private static final String STRETCHED =
        "ground a 0 0;ground b -40 0;joint c 0 10;joint d -20 5;chain a c d b;drive c about a;";
    private static final Check CHECK = new Check();

    public static void main(String[] args) {
        orderComes();
        orderHangs();
        side();
        steps();
        drivenDown();
        nearestCentres();
        stretched();
        footDown();
        farFoot();
        rootDown();
        placesDown();
        reasons();
        pose();
        poseRefused();
        latestPose();
        atAndWhyRefused();
        order();
        orderRefused();
        flip();
        flipRefused();
        trace();
        traceRefused();
        curve();
        curveRefused();
        toldBeginnings();
        toldFirstOfSeveral();
        toldRefused();
        CHECK.end();
    }

    private static void place(String what, Desk x, int joint, long atX, long atY) {
        CHECK.due(what + ": x", x.at(joint, 0), atX);
        CHECK.due(what + ": y", x.at(joint, 1), atY);
    }

    // ---- 4 TURNING

    private static void orderComes() {
        CHECK.on("'GROUND and the DRIVEN JOINT are there': they do not come, though they have BARS to two");
        Desk x = Desk.of("ground a 0 0;ground b 9 0;ground g 4 9;joint c 0 5;frame a b g;chain a c b;bar c g;drive c about a;");
        CHECK.due("order(0, 0)", x.order(0, 0), NONE);
        CHECK.due("flip of the DRIVEN one", x.flip(3), STATE);
        CHECK.due("pose()", x.pose(9), 4);
        CHECK.on("'has BARS to two JOINTS or more that are there': not with one");
        x = Desk.of(CRANK + "ground a 0 0;ground b 9 0;joint d 4 4;bar d a;");
        CHECK.due("one BAR: order(0, 0)", x.order(0, 0), NONE);
        CHECK.due("one BAR: pose()", x.pose(0), 4);
        CHECK.due("one BAR: LOOSE", x.why(4), 1);
        x = Desk.of(CRANK + "ground a 0 0;ground b 9 0;joint d 4 4;bar d a;bar d b;");
        CHECK.due("two BARS: order(0, 0)", x.order(0, 0), 4);
        CHECK.due("two BARS: pose()", x.pose(0), 5);
        CHECK.on("'that are there': BARS to those that are not there do not count");
        x = Desk.of(CRANK + "ground a 0 0;joint d 4 4;joint e 6 4;bar d a;bar e a;bar d e;");
        CHECK.due("order(0, 0)", x.order(0, 0), NONE);
        CHECK.due("pose()", x.pose(0), 3);
        CHECK.due("d is LOOSE", x.why(3), 1);
        CHECK.due("e is LOOSE", x.why(4), 1);
        CHECK.on("'again and again, the JOINT of least number'");
        x = Desk.of(CRANK + "joint p 5 9;joint q 6 9;joint r 4 4;ground a 0 0;ground b 9 0;bar r a;bar r b;bar q r;bar q b;"
            + "bar p q;bar p a;");
        int[] due = {4, 3, 2, NONE};
        for (int k = 0; k < 4; k++) {
            CHECK.due("order(" + k + ", 0)", x.order(k, 0), due[k]);
        }
        x = Desk.of(CRANK + "joint p 5 9;joint q 6 9;ground a 0 0;ground b 9 0;bar q a;bar q b;bar p a;bar p b;");
        CHECK.due("both can come: the lesser", x.order(0, 0), 2);
        CHECK.due("both can come: the greater", x.order(1, 0), 3);
        x = Desk.of("joint d 4 4;ground a 0 0;ground b 9 0;bar d a;bar d b;" + CRANK);
        CHECK.due("JOINT 0 by BAR 0: order(0, 0)", x.order(0, 0), 0);
        CHECK.due("JOINT 0 by BAR 0: A", x.order(0, 1), 1);
        CHECK.due("JOINT 0 by BAR 0: B", x.order(0, 2), 2);
        CHECK.on("'Those that never come are LOOSE': the last of 24 JOINTS, by the last of 60 BARS");
        x = Desk.of(wheelOfBars());
        CHECK.due("BARS", x.count(2), 60);
        CHECK.due("the 21st that HANGS", x.order(20, 0), 22);
        CHECK.due("no more", x.order(21, 0), NONE);
        CHECK.holds("pose()", x.pose(7) <= 23);
        CHECK.due("the last JOINT", x.why(23), 1);
    }

    /** All others HANG on GROUND a and the DRIVEN b, and have 16 BARS more; the last one has a BAR to a alone. */
    private static String wheelOfBars() {
        StringBuilder b = new StringBuilder("ground a 0 0;joint b 9 0;");
        StringBuilder bars = new StringBuilder("bar a b;drive b about a;");
        for (int i = 2; i < 24; i++) {
            char name = (char) ('a' + i);
            b.append("joint ").append(name).append(" 4 ").append(i).append(';');
            if (i < 23) {
                bars.append("chain a ").append(name).append(" b;");
            }
        }
        bars.append("chain");
        for (int i = 2; i < 19; i++) {
            bars.append(' ').append((char) ('a' + i));
        }
        return b.toString() + bars + ";bar x a;";
    }

    private static void orderHangs() {
        CHECK.on("'the JOINTS A, B of the first two of these BARS (by numbers of BARS)'");
        String three = CRANK + "ground a 0 0;ground b 9 0;ground g 9 9;joint d 4 5;";
        String[] bars = {"bar d a;bar d b;bar d g;", "bar g d;bar b d;bar a d;", "bar b d;bar d a;bar g d;"};
        int[][] due = {{2, 3}, {4, 3}, {3, 2}};
        for (int i = 0; i < 3; i++) {
            Desk x = Desk.of(three + bars[i]);
            CHECK.due(bars[i] + " A", x.order(0, 1), due[i][0]);
            CHECK.due(bars[i] + " B", x.order(0, 2), due[i][1]);
        }
        CHECK.on("'of these BARS': one to a JOINT that comes later is not among them");
        Desk x = Desk.of(CRANK + "ground a 0 0;ground b 9 0;joint e 8 8;joint d 4 5;bar d e;bar e b;bar d b;bar d a;");
        CHECK.due("d comes first", x.order(0, 0), 5);
        CHECK.due("A", x.order(0, 1), 3);
        CHECK.due("B", x.order(0, 2), 2);
        CHECK.due("e HANGS on it", x.order(1, 1), 5);
    }

    private static void side() {
        CHECK.on("'SIDE .. 1, if .. is 0 or more .., else -1'");
        String two = CRANK + "ground a 0 0;ground b 1 0;";
        String bars = "bar d a;bar d b;";
        CHECK.due("1", Desk.of(two + "joint d 7 1;" + bars).flip(4), -1);
        CHECK.due("0", Desk.of(two + "joint d 7 0;" + bars).flip(4), -1);
        CHECK.due("-1", Desk.of(two + "joint d 7 -1;" + bars).flip(4), 1);
        CHECK.due("0, beyond A", Desk.of(two + "joint d -7 0;" + bars).flip(4), -1);
        // A and B exchanged: what was above is below.
        CHECK.due("1, B ahead of A", Desk.of(two + "joint d 7 1;bar d b;bar d a;").flip(4), 1);
        CHECK.on("'SIDE': places as far as may be");
        String far = CRANK + "ground a -1000 -1000;ground b 1000 1000;";
        CHECK.due("left", Desk.of(far + "joint d -1000 1000;" + bars).flip(4), -1);
        CHECK.due("right", Desk.of(far + "joint d 1000 -1000;" + bars).flip(4), 1);
    }

    private static void steps() {
        CHECK.on("'m = s modulo 64', 'for each whole 64 STEPS in s they become -d, c'");
        // Told at 64, 0 beyond it, the DRIVEN JOINT is at c, d.
        Desk x = Desk.of("ground o 0 0;joint m 64 0;bar m o;drive m about o;");
        int[][] due = {{0, 65536, 0}, {1, 65504, 2047}, {2, 65408, 4092}, {62, 2079, 65502}, {63, 1031, 65527}, {64, 0, 65536},
            {65, -2047, 65504}, {127, -65527, 1031}, {128, -65536, 0}, {129, -65504, -2047}, {191, -1031, -65527},
            {192, 0, -65536}, {193, 2047, -65504}, {255, 65527, -1031}};
        for (int[] d : due) {
            CHECK.due("pose(" + d[0] + ")", x.pose(d[0]), 2);
            place("STEP " + d[0], x, 1, d[1], d[2]);
        }
        CHECK.on("'c is 65536 (4096 - m m) / (4096 + m m), DOWN, d is 8388608 m / (4096 + m m), DOWN': at all STEPS");
        x.trace(1);
        for (int step = 0; step < 256; step++) {
            Desk y = x.again();
            long m = step % 64;
            long c = Math.floorDiv(65536 * (4096 - m * m), 4096 + m * m);
            long d = Math.floorDiv(8388608 * m, 4096 + m * m);
            long[][] turned = {{c, d}, {-d, c}, {-c, -d}, {d, -c}};
            CHECK.due("c at " + step, y.curve(step, 0), turned[step / 64][0]);
            CHECK.due("d at " + step, y.curve(step, 1), turned[step / 64][1]);
        }
        CHECK.on("'GROUND is at 1024 x, 1024 y': at the farthest places, too");
        x = Desk.of("ground o -1000 1000;ground p 1000 -1000;joint m 1000 1000;bar m o;drive m about o;");
        x.pose(0);
        place("o", x, 0, -1024000, 1024000);
        place("p", x, 1, 1024000, -1024000);
        place("m at STEP 0", x, 2, 1024000, 1024000);
        x.pose(192);
        place("m at STEP 192", x, 2, -1024000, 1024000 - 2048000);
    }

    private static void drivenDown() {
        CHECK.on("'(c u - d v) / 64, (d u + c v) / 64, both DOWN': below 0, too");
        Desk x = Desk.of("ground o 0 0;joint m -1 0;bar m o;drive m about o;");
        x.pose(1);
        // -65504 / 64 is -1023.5, -2047 / 64 is -31.98.
        place("-1, 0 at STEP 1", x, 1, -1024, -32);
        x = Desk.of("ground o 5 7;joint m 5 6;bar m o;drive m about o;");
        x.pose(1);
        place("0, -1 at STEP 1", x, 1, 5 * 1024 + 31, 7 * 1024 - 1024);
        x = Desk.of("ground o 0 0;joint m 1 0;bar m o;drive m about o;");
        x.pose(1);
        place("1, 0 at STEP 1", x, 1, 1023, 31);
    }

    private static void nearestCentres() {
        CHECK.on("'not placed (2), if D is below 2^20'");
        // D is 2^20 - 3 at STEP 59, the last one below that two squares come to.
        Desk x = Desk.of("ground a 0 0;ground b 37 19;joint c 21 -35;joint d 56 -16;chain a c d b;drive c about a;");
        CHECK.due("2^20 - 3: pose(59)", x.pose(59), 3);
        CHECK.due("2^20 - 3: why", x.why(3), 2);
        CHECK.due("far more: pose(58)", x.pose(58), 4);
        CHECK.due("far less: pose(60)", x.pose(60), 3);
        CHECK.due("far more: pose(61)", x.pose(61), 4);
        x = Desk.of("ground a 0 0;ground b 0 11;joint c 0 10;joint d 5 10;bar a c;bar d c;bar d b;drive c about a;");
        CHECK.due("2^20: pose(0)", x.pose(0), 4);
        CHECK.due("2^20: x", Math.abs(x.at(3, 0)), 5120);
        x = Desk.of("ground a 0 0;ground b 16 -4;joint c 15 -4;joint d 15 1;bar a c;bar d c;bar d b;drive c about a;");
        CHECK.due("2^20 + 1: pose(1)", x.pose(1), 4);
        place("2^20 + 1", x, 3, 17884, 904);
        x = Desk.of("ground a 0 0;ground b 5 0;joint c 0 5;joint d 4 4;chain a c d b;drive c about a;");
        CHECK.due("0: pose(192)", x.pose(192), 3);
        CHECK.due("0: why", x.why(3), 2);
    }

    private static Desk hung(int b, int d) {
        Desk x = Desk.of(CRANK + "ground a 0 0;ground b " + b + " 0;joint d " + d + " 0;bar d a;bar d b;");
        x.pose(0);
        return x;
    }

    private static void stretched() {
        CHECK.on("'not placed (2), if that is below 0'");
        // W is 2^32 / 662^2, DOWN, which is 9800, less 99 99.
        CHECK.due("W is -1: why", hung(662, -1).why(4), 2);
        CHECK.due("W is -1: at", hung(662, -1).at(4, 0), NONE);
        CHECK.due("W is 0: why", hung(2, -1).why(4), 0);
        place("W is 0", hung(2, -1), 4, -1024, 0);
        place("W is 0, between", hung(2, 1), 4, 1024, 0);
        place("W is 0, beyond B", hung(2, 4), 4, 4096, 0);
        // Were V 1, y would be 15.
        place("W is 0, far", hung(1000, 500), 4, 512000, 0);
    }

    private static void footDown() {
        CHECK.on("'U = 65536 (p - q + D) / (2 D), DOWN': below 0, too");
        // U is -21845.33: -21846 is too far, -21845 would not be.
        CHECK.due("-1 of 3", hung(3, -1).why(4), 2);
        Desk x = Desk.of(CRANK + "ground a 0 0;ground b 3 0;joint d -1 1;bar d a;bar d b;");
        x.pose(0);
        place("-1, 1 of 3", x, 4, -1025, 1023);
    }

    private static void farFoot() {
        CHECK.on("'not placed (2), if U is below -2^28 or above 2^28': one above 2^27 is placed");
        // No BARS are long enough for a W of 0 or more with U at 2^28; these are 161480704 and -149880832.
        Desk x = Desk.of("ground a 999 -840;ground o 999 -843;joint m 995 -843;joint d -1000 1000;bar o m;bar d a;bar d m;drive m about o;");
        CHECK.due("above 2^27: pose()", x.pose(192), 4);
        place("above 2^27", x, 3, 2195133, 1662976);
        x = Desk.of("ground a 997 855;ground o 999 856;joint m 1000 853;joint d -1000 -1000;bar o m;bar d a;bar d m;drive m about o;");
        CHECK.due("below -2^27: pose()", x.pose(192), 4);
        place("below -2^27", x, 3, 3362816, 2393896);
    }

    private static void rootDown() {
        CHECK.on("'V is the root of W, DOWN'");
        // U is 172, W is 3, so V is 1: 390144 / 65536 is 5.95.
        Desk x = hung(381, 1);
        place("W is 3", x, 4, 1023, 5);
    }

    private static void placesDown() {
        CHECK.on("'(U w - SIDE V z) / 65536, (U z + SIDE V w) / 65536, both DOWN': below 0, too");
        Desk x = hung(381, 1);
        CHECK.due("flip", x.flip(4), -1);
        x.pose(0);
        place("W is 3, flipped", x, 4, 1023, -6);
        x = Desk.of(CRANK + "ground a 0 0;ground b 3 1;joint d -1 2;bar d a;bar d b;");
        x.pose(0);
        place("3, 1 and -1, 2", x, 4, -1025, 2047);
        x.flip(4);
        x.pose(0);
        place("3, 1 and -1, 2, flipped", x, 4, 409, -2253);
        x = Desk.of(CRANK + "ground a 0 0;ground b -3 -7;joint d -5 2;bar d a;bar d b;");
        x.flip(4);
        x.pose(0);
        place("-3, -7 and -5, 2, flipped", x, 4, 5014, -2296);
    }

    private static void reasons() {
        CHECK.on("'One that HANGS on one that is not placed is not placed (3)': on A, on B, on both, and so on");
        // d can not be placed at STEP 128.
        String four = "ground a 0 0;ground b 30 0;joint c 10 0;joint d 20 5;joint e 20 15;chain a c d b;";
        Desk x = Desk.of(four + "bar e d;bar e b;drive c about a;");
        x.pose(128);
        CHECK.due("d", x.why(3), 2);
        CHECK.due("on A", x.why(4), 3);
        x = Desk.of(four + "bar e b;bar e d;drive c about a;");
        x.pose(128);
        CHECK.due("on B", x.why(4), 3);
        x = Desk.of(four + "joint f 3 9;joint h 9 9;bar e b;bar e d;bar f e;bar f d;bar h f;bar h a;drive c about a;");
        CHECK.due("pose(128)", x.pose(128), 3);
        CHECK.due("on both", x.why(5), 3);
        CHECK.due("on one that HANGS so", x.why(6), 3);
        CHECK.due("pose(0)", x.pose(0), 7);
        CHECK.due("placed again", x.why(6), 0);
        CHECK.on("'LOOSE ones are not (1)': nor those that hang on them");
        x = Desk.of(four + "joint f 3 9;bar e d;bar f e;drive c about a;");
        CHECK.due("pose(0)", x.pose(0), 4);
        CHECK.due("LOOSE", x.why(4), 1);
        CHECK.due("LOOSE by it", x.why(5), 1);
        x.pose(128);
        CHECK.due("LOOSE at another STEP", x.why(4), 1);
    }

    // ---- 12 to 14

    private static void pose() {
        CHECK.on("12: 'at a STEP' (0 .. 255), 'how many are'");
        Desk x = Desk.of(NEAR);
        CHECK.due("pose(0)", x.pose(0), 5);
        CHECK.due("pose(255)", x.pose(255), 5);
        CHECK.due("pose(128)", x.pose(128), 3);
        CHECK.due("the crank alone", Desk.of(CRANK).pose(17), 2);
        StringBuilder most = new StringBuilder(CRANK).append("ground a 0 0;ground b 9 0;");
        StringBuilder bars = new StringBuilder();
        for (int i = 0; i < 20; i++) {
            String name = "z" + (char) ('a' + i);
            most.append("joint ").append(name).append(" 4 ").append(i + 1).append(';');
            bars.append("chain a ").append(name).append(" b;");
        }
        CHECK.due("24 JOINTS", Desk.of(most.toString() + bars).pose(200), 24);
    }

    private static void poseRefused() {
        CHECK.on("12: 'BAD'");
        Desk x = Rich.turned();
        CHECK.refused("pose(256)", x, y -> y.pose(256), BAD);
        for (int n : FAR) {
            CHECK.refused("pose(" + n + ")", x, y -> y.pose(n), BAD);
        }
        CHECK.on("12: 'STATE: none is DRIVEN'");
        CHECK.refused("pose(0)", Rich.undriven(), y -> y.pose(0), STATE);
        CHECK.refused("pose(255)", Rich.undriven(), y -> y.pose(255), STATE);
        CHECK.due("nothing: pose(0)", new Desk().pose(0), STATE);
        CHECK.due("nothing: pose(256)", new Desk().pose(256), BAD);
    }

    private static void latestPose() {
        CHECK.on("13, 14: 'By the latest pose()'");
        Desk x = Desk.of(NEAR);
        x.pose(0);
        long near = x.at(3, 0);
        CHECK.due("why(3)", x.why(3), 0);
        CHECK.holds("at(3, 0)", near != NONE);
        x.pose(128);
        CHECK.due("pose(128): why(3)", x.why(3), 2);
        CHECK.due("pose(128): at(3, 0)", x.at(3, 0), NONE);
        x.pose(256);
        CHECK.due("a BAD one leaves it: why(3)", x.why(3), 2);
        x.pose(0);
        CHECK.due("pose(0) again: at(3, 0)", x.at(3, 0), near);
        CHECK.on("13: 'NONE: it is not placed'; 14: '0: it is'");
        x.pose(128);
        int[] due = {0, 0, 0, 2, 3, 1};
        for (int joint = 0; joint < due.length; joint++) {
            CHECK.due("why(" + joint + ")", x.why(joint), due[joint]);
            CHECK.due("at(" + joint + ", 0) is NONE", x.at(joint, 0) == NONE ? 1 : 0, due[joint] == 0 ? 0 : 1);
            CHECK.due("at(" + joint + ", 1) is NONE", x.at(joint, 1) == NONE ? 1 : 0, due[joint] == 0 ? 0 : 1);
        }
    }

    private static void atAndWhyRefused() {
        CHECK.on("13: 'BAD'");
        Desk x = Rich.turned();
        CHECK.due("the last JOINT", x.again().at(Rich.JOINTS - 1, 1), NONE);
        CHECK.refused("at: one more", x, y -> y.at(Rich.JOINTS, 0), BAD);
        CHECK.refused("at: axis 2", x, y -> y.at(0, 2), BAD);
        CHECK.refused("at: axis 2 of one that is not placed", x, y -> y.at(3, 2), BAD);
        for (int n : FAR) {
            CHECK.refused("at(" + n + ", 0)", x, y -> y.at(n, 0), BAD);
            CHECK.refused("at(0, " + n + ")", x, y -> y.at(0, n), BAD);
        }
        CHECK.on("14: 'BAD'");
        CHECK.due("the last JOINT", x.again().why(Rich.JOINTS - 1), 1);
        CHECK.refused("why: one more", x, y -> y.why(Rich.JOINTS), BAD);
        for (int n : FAR) {
            CHECK.refused("why(" + n + ")", x, y -> y.why(n), BAD);
        }
        CHECK.on("13, 14: 'STATE: there was no pose() of this LINKAGE'");
        Desk still = Rich.unturned();
        CHECK.refused("at of GROUND", still, y -> y.at(0, 0), STATE);
        CHECK.refused("at of the last one", still, y -> y.at(Rich.JOINTS - 1, 1), STATE);
        CHECK.refused("why of GROUND", still, y -> y.why(0), STATE);
        CHECK.refused("why of the last one", still, y -> y.why(Rich.JOINTS - 1), STATE);
        CHECK.refused("none DRIVEN: at", Rich.undriven(), y -> y.at(0, 0), STATE);
        CHECK.refused("none DRIVEN: why", Rich.undriven(), y -> y.why(0), STATE);
        Desk other = Desk.of(NEAR);
        other.pose(0);
        other.read(NEAR);
        CHECK.due("a pose() of the LINKAGE ahead: at", other.at(0, 0), STATE);
        CHECK.due("a pose() of the LINKAGE ahead: why", other.why(0), STATE);
        other.pose(256);
        CHECK.due("a BAD pose() is none", other.why(0), STATE);
        other.trace(3);
        CHECK.due("a trace() is none", other.at(0, 0), STATE);
    }

    // ---- 15, 16

    private static void order() {
        CHECK.on("15: 'NONE: there are not so many'");
        Desk x = Desk.of(NEAR);
        int[][] due = {{3, 2, 1}, {4, 3, 1}};
        for (int what = 0; what < 3; what++) {
            CHECK.due("order(0, " + what + ")", x.order(0, what), due[0][what]);
            CHECK.due("order(1, " + what + ")", x.order(1, what), due[1][what]);
            CHECK.due("order(2, " + what + ")", x.order(2, what), NONE);
            for (int n : FAR) {
                CHECK.due("order(" + n + ", " + what + ")", x.order(n, what), NONE);
            }
            CHECK.due("none HANGS: order(0, " + what + ")", Desk.of(CRANK).order(0, what), NONE);
        }
    }

    private static void orderRefused() {
        CHECK.on("15: 'BAD: what'");
        Desk x = Rich.turned();
        CHECK.refused("order(0, 3)", x, y -> y.order(0, 3), BAD);
        CHECK.refused("order(99, 3)", x, y -> y.order(99, 3), BAD);
        for (int n : FAR) {
            CHECK.refused("order(0, " + n + ")", x, y -> y.order(0, n), BAD);
        }
        CHECK.on("15: 'STATE: none is DRIVEN'");
        for (int what = 0; what < 3; what++) {
            int which = what;
            CHECK.refused("order(0, " + what + ")", Rich.undriven(), y -> y.order(0, which), STATE);
        }
        CHECK.refused("order(-1, 0)", Rich.undriven(), y -> y.order(-1, 0), STATE);
    }

    private static void flip() {
        CHECK.on("16: 'what it is now (1, -1)'");
        Desk x = Desk.of(NEAR);
        int first = x.flip(3);
        CHECK.holds("1 or -1", first == 1 || first == -1);
        CHECK.due("again", x.flip(3), -first);
        CHECK.due("once more", x.flip(3), first);
        CHECK.due("that of another JOINT is its own", x.flip(4), Desk.of(NEAR).flip(4));
        CHECK.on("16: '(Places of the latest pose(), THE CURVE stay.)'");
        x = Desk.of(NEAR);
        x.pose(0);
        x.trace(3);
        long atX = x.at(3, 0);
        long atY = x.at(3, 1);
        x.flip(3);
        place("pose()", x, 3, atX, atY);
        CHECK.due("THE CURVE: x", x.curve(0, 0), atX);
        CHECK.due("THE CURVE: y", x.curve(0, 1), atY);
        x.pose(0);
        CHECK.holds("the next pose() is by the new SIDE", x.at(3, 1) != atY);
        x.trace(3);
        CHECK.holds("the next trace() is by the new SIDE", x.curve(0, 1) != atY);
        x.flip(3);
        x.pose(0);
        place("turned back", x, 3, atX, atY);
    }

    private static void flipRefused() {
        CHECK.on("16: 'BAD'");
        Desk x = Rich.turned();
        CHECK.refused("one more", x, y -> y.flip(Rich.JOINTS), BAD);
        for (int n : FAR) {
            CHECK.refused("flip(" + n + ")", x, y -> y.flip(n), BAD);
        }
        CHECK.on("16: 'STATE: none is DRIVEN, or it does not HANG'");
        for (int joint = 0; joint < Rich.JOINTS; joint++) {
            int which = joint;
            CHECK.refused("none DRIVEN: flip(" + joint + ")", Rich.undriven(), y -> y.flip(which), STATE);
        }
        CHECK.refused("GROUND", x, y -> y.flip(0), STATE);
        CHECK.refused("the other GROUND", x, y -> y.flip(1), STATE);
        CHECK.refused("the DRIVEN one", x, y -> y.flip(2), STATE);
        CHECK.refused("a LOOSE one", x, y -> y.flip(5), STATE);
        Desk less = Desk.of(NEAR);
        less.read(CRANK + "ground a 0 0;joint d 5 5;bar d a;");
        CHECK.due("one that HUNG in the LINKAGE ahead", less.flip(3), STATE);
    }

    // ---- 17 to 19

    private static void trace() {
        CHECK.on("17: 'at how many STEPS it is placed': at all, at none, at some");
        Desk x = Desk.of(NEAR);
        CHECK.due("GROUND", x.trace(0), 256);
        CHECK.due("the DRIVEN one", x.trace(2), 256);
        CHECK.due("a LOOSE one", x.trace(5), 0);
        int some = x.trace(3);
        CHECK.holds("one that HANGS: " + some, some > 0 && some < 256);
        CHECK.due("one that HANGS on it, and is never too far", x.trace(4), some);
        CHECK.on("17: 'THE CURVE is that of a JOINT from now on'");
        CHECK.due("first of d", x.trace(3), some);
        CHECK.due("then of the DRIVEN one", x.trace(2), 256);
        CHECK.due("x at STEP 0", x.curve(0, 0), 10240);
        CHECK.due("then of a LOOSE one", x.trace(5), 0);
        CHECK.due("x at STEP 0", x.curve(0, 0), NONE);
        CHECK.on("17: '(The latest pose() stays.)'");
        x.pose(128);
        CHECK.due("trace()", x.trace(3), some);
        CHECK.due("at(2, 0)", x.at(2, 0), -10240);
        CHECK.due("why(3)", x.why(3), 2);
        CHECK.due("why(4)", x.why(4), 3);
    }

    private static void traceRefused() {
        CHECK.on("17: 'BAD'");
        Desk x = Rich.turned();
        CHECK.due("the last JOINT", x.again().trace(Rich.JOINTS - 1), 0);
        CHECK.refused("one more", x, y -> y.trace(Rich.JOINTS), BAD);
        for (int n : FAR) {
            CHECK.refused("trace(" + n + ")", x, y -> y.trace(n), BAD);
        }
        CHECK.on("17: 'STATE: none is DRIVEN'");
        CHECK.refused("GROUND", Rich.undriven(), y -> y.trace(0), STATE);
        CHECK.refused("the last one", Rich.undriven(), y -> y.trace(Rich.JOINTS - 1), STATE);
        CHECK.due("of nothing", new Desk().trace(0), BAD);
    }

    private static void curve() {
        CHECK.on("18: 'THE CURVE's place at a STEP': from 0 to 255, as pose() has it");
        Desk x = Desk.of(NEAR);
        x.trace(3);
        for (int step = 0; step < 256; step++) {
            Desk y = x.again();
            y.pose(step);
            CHECK.due("x at " + step, y.curve(step, 0), y.at(3, 0));
            CHECK.due("y at " + step, y.curve(step, 1), y.at(3, 1));
        }
        CHECK.on("18: 'NONE: not placed'");
        CHECK.due("x at 128", x.curve(128, 0), NONE);
        CHECK.due("y at 128", x.curve(128, 1), NONE);
        CHECK.holds("x at 0", x.curve(0, 0) != NONE);
        CHECK.holds("y at 255", x.curve(255, 1) != NONE);
    }

    private static void curveRefused() {
        CHECK.on("18: 'BAD'");
        Desk x = Rich.turned();
        CHECK.refused("curve(256, 0)", x, y -> y.curve(256, 0), BAD);
        CHECK.refused("curve(0, 2)", x, y -> y.curve(0, 2), BAD);
        for (int n : FAR) {
            CHECK.refused("curve(" + n + ", 0)", x, y -> y.curve(n, 0), BAD);
            CHECK.refused("curve(0, " + n + ")", x, y -> y.curve(0, n), BAD);
        }
        CHECK.on("18: 'STATE: there is no CURVE of this LINKAGE'");
        CHECK.refused("curve(0, 0)", Rich.unturned(), y -> y.curve(0, 0), STATE);
        CHECK.refused("curve(255, 1)", Rich.unturned(), y -> y.curve(255, 1), STATE);
        CHECK.refused("none DRIVEN: curve(0, 0)", Rich.undriven(), y -> y.curve(0, 0), STATE);
        Desk other = Desk.of(NEAR);
        other.trace(0);
        other.read(NEAR);
        CHECK.due("one of the LINKAGE ahead", other.curve(0, 0), STATE);
        other.pose(0);
        CHECK.due("a pose() is none", other.curve(0, 0), STATE);
        other.trace(9);
        CHECK.due("a BAD trace() makes none", other.curve(0, 0), STATE);
    }

    private static void toldBeginnings() {
        CHECK.on("19: '0 at how many STEPS it is placed where it was not at the one ahead (255 is ahead of 0)'");
        Desk x = Desk.of(NEAR);
        x.trace(2);
        CHECK.due("placed at all", x.told(0), 0);
        x.trace(5);
        CHECK.due("placed at none", x.told(0), 0);
        x.trace(3);
        CHECK.holds("placed at 255 and at 0", x.curve(255, 0) != NONE && x.curve(0, 0) != NONE);
        CHECK.due("it begins once, not at 0", x.told(0), 1);
        x = Desk.of(STRETCHED);
        x.trace(3);
        CHECK.holds("placed at 0, not at 255", x.curve(255, 0) == NONE && x.curve(0, 0) != NONE);
        CHECK.due("it begins once, at 0", x.told(0), 1);
        // Where c, b and d are told; a point is a STEP of 254, 255, 0 and 1 at which d is not placed.
        beginnings("-1 6", "12 4", "16 2", ".000", 1);
        beginnings("3 19", "3 17", "7 -9", "0.00", 1);
        beginnings("-13 1", "-16 1", "-5 1", "00.0", 2);
        beginnings("10 20", "17 -16", "18 -20", "..00", 2);
        beginnings("-18 6", "-11 -8", "-20 10", "00..", 2);
        // Too near, and too far, in turn.
        x = Desk.of("ground a 0 0;ground b 30 0;joint c 0 10;joint d 30 5;chain a c d b;drive c about a;");
        x.trace(3);
        CHECK.due("it begins twice", x.told(0), 2);
    }

    private static void beginnings(String c, String b, String d, String about0, int due) {
        Desk x = Desk.of("ground a 0 0;ground b " + b + ";joint c " + c + ";joint d " + d + ";chain a c d b;drive c about a;");
        x.trace(3);
        for (int i = 0; i < 4; i++) {
            CHECK.due(c + ": STEP " + (254 + i) % 256, x.curve((254 + i) % 256, 0) == NONE ? '.' : '0', about0.charAt(i));
        }
        CHECK.due(c + ": it begins", x.told(0), due);
    }

    private static void toldFirstOfSeveral() {
        CHECK.on("19: 'the first STEP at which x is least, 2 at which it is greatest, 3 and 4 likewise of y'");
        Desk x = Desk.of("ground o 0 0;joint m 1 0;bar m o;drive m about o;");
        x.trace(1);
        // By DOWN x is -1024 from 126 to 129, y from 190 to 193; 1024 only where c, d are 65536.
        int[] due = {0, 126, 0, 190, 64};
        for (int what = 0; what < 5; what++) {
            CHECK.due("told(" + what + ")", x.told(what), due[what]);
        }
        CHECK.due("x at 125", x.curve(125, 0), -1023);
        CHECK.due("x at 126", x.curve(126, 0), -1024);
        CHECK.due("x at 129", x.curve(129, 0), -1024);
        CHECK.due("y at 193", x.curve(193, 1), -1024);
        x.trace(0);
        for (int what = 0; what < 5; what++) {
            CHECK.due("GROUND: told(" + what + ")", x.told(what), 0);
        }
        x = Desk.of("ground o 0 0;joint m -1 0;bar m o;drive m about o;");
        x.trace(1);
        int[] opposite = {0, 0, 128, 62, 192};
        for (int what = 0; what < 5; what++) {
            CHECK.due("opposite: told(" + what + ")", x.told(what), opposite[what]);
        }
        CHECK.on("19: 'STEP at which x is least': where it is not placed does not count");
        // All places of d lie beyond 0, 0, which an unplaced one must not stand for.
        for (String sign : new String[] {"", "-"}) {
            x = Desk.of("ground a " + sign + "500 " + sign + "500;ground b " + sign + "530 " + sign + "500;joint c " + sign + "510 " + sign
                + "500;joint d " + sign + "520 " + sign + "505;chain a c d b;drive c about a;");
            x.trace(3);
            for (int what = 1; what < 5; what++) {
                CHECK.holds(sign + " told(" + what + ") is placed", x.curve(x.told(what), 0) != NONE);
            }
        }
        CHECK.on("19: 'NONE (1 to 4) without a place'");
        x = Desk.of(NEAR);
        x.trace(5);
        CHECK.due("told(0)", x.told(0), 0);
        for (int what = 1; what < 5; what++) {
            CHECK.due("told(" + what + ")", x.told(what), NONE);
        }
        CHECK.on("19: with one place alone, at STEP 0");
        // c is farthest from b at STEP 0, and nearer d reaches both no more.
        x = Desk.of("ground a 0 0;ground b 200 0;joint c -200 0;joint d -600 0;bar a c;bar d c;bar d b;drive c about a;");
        CHECK.due("trace()", x.trace(3), 1);
        CHECK.due("told(0)", x.told(0), 1);
        CHECK.due("x", x.curve(0, 0), -614400);
        for (int what = 1; what < 5; what++) {
            CHECK.due("told(" + what + ")", x.told(what), 0);
        }
    }

    private static void toldRefused() {
        CHECK.on("19: 'BAD'");
        Desk x = Rich.turned();
        CHECK.refused("told(5)", x, y -> y.told(5), BAD);
        for (int n : FAR) {
            CHECK.refused("told(" + n + ")", x, y -> y.told(n), BAD);
        }
        CHECK.on("19: 'STATE likewise'");
        for (int what = 0; what < 5; what++) {
            int which = what;
            CHECK.refused("told(" + what + ")", Rich.unturned(), y -> y.told(which), STATE);
            CHECK.refused("none DRIVEN: told(" + what + ")", Rich.undriven(), y -> y.told(which), STATE);
        }
    }
}
