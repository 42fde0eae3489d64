import java.math.BigInteger;

/** The edges that '7 ROWS' and promises 27 to 35 name. */
public final class RowsEdgesTest {
    private static final int NONE = LinkageCurves.NONE, BAD = LinkageCurves.BAD, STATE = LinkageCurves.STATE;
    private static final int NULL = -1000011, PLACE = -1000012, SIZE = -1000014, STORE = -1000016;
    private static final int LEAST = Integer.MIN_VALUE, MOST = Integer.MAX_VALUE;
    private static final int[] FAR = {-1, LEAST, MOST};
    /** ITEMS of Rich's ROWS 0 to 4. */
    private static final int[] SIZES = {4, 5, 300, 6, 0};
    private static final Check CHECK = new Check();

    public static void main(String[] args) {
        lay();
        layAnew();
        layRefused();
        drop();
        dropRefused();
        putWraps();
        putAtEnds();
        putRefused();
        getRefused();
        moveToEnds();
        moveWithin();
        moveRefused();
        movePlace();
        keepAsFar();
        keepCuts();
        keepRefused();
        count();
        countBad();
        status();
        statusStays();
        digestOfParts();
        digestOfRows();
        CHECK.end();
    }

    private static void items(String what, Desk x, int row, long... due) {
        for (int i = 0; i < due.length; i++) {
            CHECK.due(what + ": ITEM " + i, x.get(row, i), due[i]);
        }
        CHECK.due(what + ": no more", x.get(row, due.length), PLACE);
    }

    // ---- 27, 28

    private static void lay() {
        CHECK.on("'ROWS 0 .. 7', 'a LANE (0 bytes, 1 shorts, 2 ints, 3 longs) and 0 to 300 ITEMS', 27: 'n'");
        Desk x = new Desk();
        for (int row = 0; row < 8; row++) {
            for (int lane = 0; lane < 4; lane++) {
                CHECK.due("lay(" + row + ", " + lane + ", 0)", x.lay(row, lane, 0), 0);
                CHECK.due("lay(" + row + ", " + lane + ", 300)", x.lay(row, lane, 300), 300);
                CHECK.due("status()", x.status(), 0);
                CHECK.due("the last ITEM", x.get(row, 299), 0);
                CHECK.due("one more", x.get(row, 300), PLACE);
            }
        }
        CHECK.due("all are there", x.count(9), 8);
        CHECK.due("lay(7, 3, 1)", x.lay(7, 3, 1), 1);
        CHECK.due("lay(7, 3, 299)", x.lay(7, 3, 299), 299);
        CHECK.due("no ITEM 299", x.get(7, 299), PLACE);
    }

    private static void layAnew() {
        CHECK.on("27: 'in place of what is there'; '0 at first'");
        Desk x = new Desk();
        x.lay(3, 3, 300);
        for (int i = 0; i < 300; i++) {
            x.put(3, i, -1 - i);
        }
        CHECK.due("lay fewer of another LANE", x.lay(3, 0, 2), 2);
        items("fewer", x, 3, 0, 0);
        CHECK.due("put 200", x.put(3, 0, 200), -56);
        CHECK.due("lay more", x.lay(3, 3, 300), 300);
        for (int i = 0; i < 300; i += 7) {
            Desk y = x.again();
            CHECK.due("ITEM " + i, y.get(3, i), 0);
        }
        CHECK.due("the last ITEM", x.get(3, 299), 0);
        CHECK.due("the same once more", x.lay(3, 3, 300), 300);
        CHECK.due("ROWS", x.count(9), 1);
        CHECK.due("lay none in place of it", x.lay(3, 3, 0), 0);
        CHECK.due("an empty one is there", x.count(9), 1);
    }

    private static void layRefused() {
        CHECK.on("27: 'BAD: ROW, LANE, n above 300'");
        Desk x = Rich.turned();
        CHECK.refused("lay(8, 0, 1)", x, y -> y.lay(8, 0, 1), BAD);
        CHECK.refused("lay(0, 4, 1)", x, y -> y.lay(0, 4, 1), BAD);
        CHECK.refused("lay(0, 0, 301)", x, y -> y.lay(0, 0, 301), BAD);
        CHECK.refused("lay(0, 0, MOST)", x, y -> y.lay(0, 0, MOST), BAD);
        CHECK.refused("lay(5, 0, 301) of a missing one", x, y -> y.lay(Rich.MISSING, 0, 301), BAD);
        for (int n : FAR) {
            CHECK.refused("lay(" + n + ", 0, 1)", x, y -> y.lay(n, 0, 1), BAD);
            CHECK.refused("lay(0, " + n + ", 1)", x, y -> y.lay(0, n, 1), BAD);
        }
        CHECK.on("27: 'SIZE'");
        CHECK.refused("lay(0, 0, -1)", x, y -> y.lay(0, 0, -1), SIZE);
        CHECK.refused("lay(0, 3, LEAST)", x, y -> y.lay(0, 3, LEAST), SIZE);
        CHECK.refused("lay(5, 0, -1) of a missing one", x, y -> y.lay(Rich.MISSING, 0, -1), SIZE);
        CHECK.refused("lay(5, 0, -300)", x, y -> y.lay(Rich.MISSING, 0, -300), SIZE);
    }

    private static void drop() {
        CHECK.on("28: 'A ROW is missing from now on: how many ITEMS it had'");
        Desk x = Rich.turned();
        for (int row = 0; row < SIZES.length; row++) {
            CHECK.due("drop(" + row + ")", x.drop(row), SIZES[row]);
            CHECK.due("status()", x.status(), 0);
            CHECK.due("ROWS that are there", x.count(9), SIZES.length - 1 - row);
            CHECK.due("get", x.get(row, 0), NULL);
            CHECK.due("put", x.put(row, 0, 1), NULL);
            CHECK.due("keep", x.keep(row, 0), NULL);
            CHECK.due("move", x.move(row, 0, row, 0, 0), NULL);
            CHECK.due("drop again", x.drop(row), NULL);
        }
        CHECK.due("lay anew", x.lay(3, 3, 6), 6);
        items("anew", x, 3, 0, 0, 0, 0, 0, 0);
        x.lay(7, 1, 300);
        CHECK.due("the last ROW", x.drop(7), 300);
    }

    private static void dropRefused() {
        CHECK.on("28: 'BAD'");
        Desk x = Rich.turned();
        CHECK.refused("drop(8)", x, y -> y.drop(8), BAD);
        for (int n : FAR) {
            CHECK.refused("drop(" + n + ")", x, y -> y.drop(n), BAD);
        }
        CHECK.on("28: 'NULL'");
        for (int row = Rich.MISSING; row < 8; row++) {
            int missing = row;
            CHECK.refused("drop(" + row + ")", x, y -> y.drop(missing), NULL);
        }
    }

    // ---- 29, 30

    private static void putWraps() {
        CHECK.on("29: 'ITEM i becomes v, its lowest bits, as many as the LANE has: what it is then'");
        for (int lane = 0; lane < 4; lane++) {
            int bits = 8 << lane;
            BigInteger whole = BigInteger.ONE.shiftLeft(bits);
            long half = lane == 3 ? Long.MAX_VALUE : (1L << bits - 1) - 1;
            long[] values = {0, 1, -1, half, half + 1, -half, -half - 1, -half - 2, 2 * half + 1, 2 * half + 2, 2 * half + 3, Long.MIN_VALUE,
                Long.MAX_VALUE, 0x0123456789abcdefL, 0xfedcba9876543210L, 0x8080808080808080L, 0x7f7f7f7f7f7f7f7fL};
            Desk x = new Desk();
            x.lay(lane, lane, 3);
            for (long v : values) {
                BigInteger left = BigInteger.valueOf(v).mod(whole);
                long due = (left.testBit(bits - 1) ? left.subtract(whole) : left).longValueExact();
                CHECK.due("put " + v + " in LANE " + lane, x.put(lane, 1, v), due);
                CHECK.due("get of it", x.get(lane, 1), due);
            }
            CHECK.due("the one ahead", x.get(lane, 0), 0);
            CHECK.due("the one behind", x.get(lane, 2), 0);
        }
    }

    private static void putAtEnds() {
        CHECK.on("29, 30: the first ITEM and the last one");
        Desk x = new Desk();
        x.lay(7, 3, 300);
        CHECK.due("put(7, 0)", x.put(7, 0, 5), 5);
        CHECK.due("put(7, 299)", x.put(7, 299, 6), 6);
        CHECK.due("get(7, 0)", x.get(7, 0), 5);
        CHECK.due("get(7, 299)", x.get(7, 299), 6);
        CHECK.due("get(7, 298)", x.get(7, 298), 0);
        CHECK.due("status()", x.status(), 0);
        x.lay(0, 0, 1);
        CHECK.due("put(0, 0) of one ITEM", x.put(0, 0, 5), 5);
        CHECK.due("put(0, 1) of one ITEM", x.put(0, 1, 5), PLACE);
    }

    private static void putRefused() {
        CHECK.on("29: 'BAD: ROW'");
        Desk x = Rich.turned();
        CHECK.refused("put(8, 0)", x, y -> y.put(8, 0, 9), BAD);
        for (int n : FAR) {
            CHECK.refused("put(" + n + ", 0)", x, y -> y.put(n, 0, 9), BAD);
        }
        CHECK.on("29: 'NULL'");
        for (int row = Rich.MISSING; row < 8; row++) {
            int missing = row;
            CHECK.refused("put(" + row + ", 0)", x, y -> y.put(missing, 0, 9), NULL);
        }
        CHECK.on("29: 'PLACE'");
        for (int row = 0; row < SIZES.length; row++) {
            int laid = row;
            int size = SIZES[row];
            CHECK.refused("put(" + row + ", " + size + ")", x, y -> y.put(laid, size, 9), PLACE);
            for (int n : FAR) {
                CHECK.refused("put(" + row + ", " + n + ")", x, y -> y.put(laid, n, 9), PLACE);
            }
        }
    }

    private static void getRefused() {
        CHECK.on("30: 'BAD: ROW'");
        Desk x = Rich.turned();
        CHECK.refused("get(8, 0)", x, y -> y.get(8, 0), BAD);
        for (int n : FAR) {
            CHECK.refused("get(" + n + ", 0)", x, y -> y.get(n, 0), BAD);
        }
        CHECK.on("30: 'NULL'");
        for (int row = Rich.MISSING; row < 8; row++) {
            int missing = row;
            CHECK.refused("get(" + row + ", 0)", x, y -> y.get(missing, 0), NULL);
        }
        CHECK.on("30: 'PLACE'");
        for (int row = 0; row < SIZES.length; row++) {
            int laid = row;
            int size = SIZES[row];
            CHECK.refused("get(" + row + ", " + size + ")", x, y -> y.get(laid, size), PLACE);
            for (int n : FAR) {
                CHECK.refused("get(" + row + ", " + n + ")", x, y -> y.get(laid, n), PLACE);
            }
        }
    }

    // ---- 31

    /** ROW 0 has 10 to 15, ROW 1 four of 0, both ints; ROW 2 longs; ROW 3 ints without an ITEM. */
    private static Desk laid() {
        Desk x = new Desk();
        x.lay(0, 2, 6);
        x.lay(1, 2, 4);
        x.lay(2, 3, 6);
        x.lay(3, 2, 0);
        for (int i = 0; i < 6; i++) {
            x.put(0, i, 10 + i);
        }
        x.as(0, 0);
        return x;
    }

    private static void moveToEnds() {
        CHECK.on("31: 'n ITEMS of a from i on come to b from j on': up to both ends");
        Desk x = laid();
        CHECK.due("all that b takes", x.move(0, 2, 1, 0, 4), 4);
        CHECK.due("status()", x.status(), 0);
        items("all", x, 1, 12, 13, 14, 15);
        items("a stays", x, 0, 10, 11, 12, 13, 14, 15);
        x = laid();
        CHECK.due("the last to the last", x.move(0, 5, 1, 3, 1), 1);
        items("the last", x, 1, 0, 0, 0, 15);
        x = laid();
        CHECK.due("the first to the first", x.move(0, 0, 1, 0, 1), 1);
        items("the first", x, 1, 10, 0, 0, 0);
        CHECK.on("31: n = 0, up to the ends themselves");
        for (int[] d : new int[][] {{0, 0, 1, 0}, {0, 6, 1, 4}, {0, 6, 0, 6}, {3, 0, 3, 0}, {0, 6, 3, 0}, {3, 0, 1, 4}}) {
            x = laid();
            CHECK.due("move(" + d[0] + ", " + d[1] + ", " + d[2] + ", " + d[3] + ", 0)", x.move(d[0], d[1], d[2], d[3], 0), 0);
            CHECK.due("status()", x.status(), 0);
            CHECK.due("nothing is another", x.digest(), laid().digest());
        }
        CHECK.on("31: 300 ITEMS");
        x = new Desk();
        x.lay(6, 0, 300);
        x.lay(7, 0, 300);
        x.put(6, 0, 1);
        x.put(6, 299, 2);
        CHECK.due("move all", x.move(6, 0, 7, 0, 300), 300);
        CHECK.due("the first", x.get(7, 0), 1);
        CHECK.due("the last", x.get(7, 299), 2);
    }

    private static void moveWithin() {
        CHECK.on("31: 'as they were (a and b may be the same)'");
        Desk x = laid();
        CHECK.due("up by one", x.move(0, 0, 0, 1, 5), 5);
        items("up by one", x, 0, 10, 10, 11, 12, 13, 14);
        x = laid();
        CHECK.due("down by one", x.move(0, 1, 0, 0, 5), 5);
        items("down by one", x, 0, 11, 12, 13, 14, 15, 15);
        x = laid();
        CHECK.due("up by two", x.move(0, 1, 0, 3, 3), 3);
        items("up by two", x, 0, 10, 11, 12, 11, 12, 13);
        x = laid();
        CHECK.due("to itself", x.move(0, 0, 0, 0, 6), 6);
        items("to itself", x, 0, 10, 11, 12, 13, 14, 15);
        x = laid();
        CHECK.due("halves", x.move(0, 3, 0, 0, 3), 3);
        items("halves", x, 0, 13, 14, 15, 13, 14, 15);
    }

    private static void moveRefused() {
        CHECK.on("31: 'BAD: ROWS'");
        Desk x = Rich.turned();
        CHECK.refused("move from 8", x, y -> y.move(8, 0, 0, 0, 0), BAD);
        CHECK.refused("move to 8", x, y -> y.move(0, 0, 8, 0, 0), BAD);
        for (int n : FAR) {
            CHECK.refused("move from " + n, x, y -> y.move(n, 0, 0, 0, 0), BAD);
            CHECK.refused("move to " + n, x, y -> y.move(0, 0, n, 0, 0), BAD);
            CHECK.refused("move from and to " + n, x, y -> y.move(n, 0, n, 0, 0), BAD);
        }
        CHECK.on("31: 'NULL'");
        CHECK.refused("a is missing", x, y -> y.move(5, 0, 0, 0, 0), NULL);
        CHECK.refused("b is missing", x, y -> y.move(0, 0, 5, 0, 0), NULL);
        CHECK.refused("both are missing", x, y -> y.move(6, 0, 7, 0, 1), NULL);
        CHECK.refused("one is both, and missing", x, y -> y.move(7, 0, 7, 0, 0), NULL);
        CHECK.on("31: 'STORE'");
        for (int a = 0; a < 4; a++) {
            for (int b = 0; b < 4; b++) {
                int from = a;
                int to = b;
                if (a != b) {
                    CHECK.refused("LANE " + a + " to " + b, x, y -> y.move(from, 0, to, 0, 1), STORE);
                }
            }
        }
        CHECK.refused("STORE with n = 0", x, y -> y.move(0, 0, 1, 0, 0), STORE);
        CHECK.refused("STORE of a ROW without an ITEM", x, y -> y.move(4, 0, 1, 0, 0), STORE);
        CHECK.due("two ROWS of one LANE", x.again().move(3, 0, 4, 0, 0), 0);
    }

    private static void movePlace() {
        CHECK.on("31: 'PLACE (i, j, n below 0'");
        Desk x = laid();
        int[][] below = {{-1, 0, 1}, {0, -1, 1}, {0, 0, -1}, {LEAST, 0, 1}, {0, LEAST, 1}, {0, 0, LEAST}, {-1, 0, 0}, {0, -1, 0},
            {6, 4, -1}, {3, 3, -3}, {LEAST, LEAST, LEAST}, {-1, -1, 2}};
        place(x, below);
        CHECK.on("31: 'or beyond an end'");
        int[][] beyond = {{6, 0, 1}, {5, 0, 2}, {3, 0, 4}, {0, 4, 1}, {0, 3, 2}, {0, 0, 5}, {2, 1, 4}, {MOST, 0, 1}, {0, MOST, 1},
            {0, 0, MOST}, {1, 1, MOST}, {MOST, MOST, MOST}, {6, 4, MOST}};
        place(x, beyond);
        CHECK.on("31: 'also with n = 0)'");
        place(x, new int[][] {{7, 0, 0}, {0, 5, 0}, {7, 5, 0}, {MOST, 0, 0}, {0, MOST, 0}});
        CHECK.on("31: 'PLACE' in one ROW");
        CHECK.refused("beyond the end by j", x, y -> y.move(0, 0, 0, 1, 6), PLACE);
        CHECK.refused("beyond the end by i", x, y -> y.move(0, 1, 0, 0, 6), PLACE);
        CHECK.refused("no ITEM at all", x, y -> y.move(3, 0, 3, 0, 1), PLACE);
        CHECK.refused("to a ROW without an ITEM", x, y -> y.move(0, 0, 3, 0, 1), PLACE);
        CHECK.refused("beyond the end of a ROW without an ITEM", x, y -> y.move(3, 1, 3, 0, 0), PLACE);
    }

    private static void place(Desk x, int[][] moves) {
        for (int[] m : moves) {
            CHECK.refused("move(0, " + m[0] + ", 1, " + m[1] + ", " + m[2] + ")", x, y -> y.move(0, m[0], 1, m[1], m[2]), PLACE);
        }
    }

    // ---- 32

    /** THE CURVE of d, which is not placed at all STEPS. */
    private static Desk traced(int lane, int n) {
        Desk x = Desk.of(Rich.DRIVEN);
        x.trace(3);
        x.lay(0, lane, n);
        return x;
    }

    private static void keepAsFar() {
        CHECK.on("32: 'from its beginning on, .. as far as both reach: how many'");
        for (int n : new int[] {0, 1, 255, 256, 257, 300}) {
            Desk x = traced(3, n);
            int due = Math.min(n, 256);
            if (n > 256) {
                x.put(0, 256, 77);
                x.put(0, n - 1, 78);
            }
            CHECK.due("keep in " + n, x.keep(0, 0), due);
            CHECK.due("status()", x.status(), 0);
            if (n > 0) {
                CHECK.due("the first of " + n, x.get(0, 0), x.curve(0, 0));
                CHECK.due("the last of " + n, x.get(0, due - 1), x.curve(due - 1, 0));
            }
            if (n > 256) {
                CHECK.due("the first one beyond, of " + n, x.get(0, 256), n == 257 ? 78 : 77);
                CHECK.due("the last one, of " + n, x.get(0, n - 1), 78);
            }
            CHECK.due("it has no more", x.get(0, n), PLACE);
        }
        CHECK.on("32: '0 where it is not placed'");
        for (int axis = 0; axis < 2; axis++) {
            Desk x = traced(3, 256);
            for (int step = 100; step < 150; step++) {
                x.put(0, step, 99);
            }
            x.keep(0, axis);
            for (int step = 100; step < 150; step++) {
                CHECK.due("NONE at " + step, x.curve(step, axis), NONE);
                CHECK.due("0 at " + step, x.get(0, step), 0);
            }
        }
        CHECK.on("32: '0 where it is not placed': a CURVE without a place");
        Desk x = Desk.of(Rich.DRIVEN);
        CHECK.due("trace() of a LOOSE one", x.trace(5), 0);
        x.lay(0, 3, 256);
        x.put(0, 0, 9);
        x.put(0, 255, 9);
        CHECK.due("keep()", x.keep(0, 1), 256);
        CHECK.due("the first one", x.get(0, 0), 0);
        CHECK.due("the last one", x.get(0, 255), 0);
    }

    private static void keepCuts() {
        CHECK.on("32: 'as by put()': cut to the LANE");
        for (int lane = 0; lane < 4; lane++) {
            for (int axis = 0; axis < 2; axis++) {
                Desk x = traced(lane, 256);
                x.lay(1, lane, 1);
                x.keep(0, axis);
                for (int step = 0; step < 256; step += 17) {
                    long at = x.curve(step, axis);
                    CHECK.due("LANE " + lane + ", axis " + axis + ", STEP " + step, x.get(0, step), x.put(1, 0, at == NONE ? 0 : at));
                }
            }
        }
        Desk x = Desk.of("ground o 1000 0;joint m 1000 1000;bar m o;drive m about o;");
        x.lay(0, 0, 65);
        x.lay(1, 1, 65);
        x.trace(1);
        x.keep(0, 0);
        x.keep(1, 1);
        CHECK.due("1024000 as a byte", x.get(0, 0), 0);
        CHECK.due("1024000 as a short", x.get(1, 0), (short) 1024000);
    }

    private static void keepRefused() {
        CHECK.on("32: 'BAD: ROW, axis'");
        Desk x = Rich.turned();
        CHECK.refused("keep(8, 0)", x, y -> y.keep(8, 0), BAD);
        CHECK.refused("keep(0, 2)", x, y -> y.keep(0, 2), BAD);
        for (int n : FAR) {
            CHECK.refused("keep(" + n + ", 0)", x, y -> y.keep(n, 0), BAD);
            CHECK.refused("keep(0, " + n + ")", x, y -> y.keep(0, n), BAD);
        }
        CHECK.on("32: 'STATE: there is no CURVE'");
        CHECK.refused("keep(0, 0)", Rich.unturned(), y -> y.keep(0, 0), STATE);
        CHECK.refused("keep(4, 1)", Rich.unturned(), y -> y.keep(4, 1), STATE);
        CHECK.refused("none DRIVEN: keep(0, 0)", Rich.undriven(), y -> y.keep(0, 0), STATE);
        Desk other = Rich.turned();
        other.read();
        CHECK.refused("a CURVE of the LINKAGE ahead", other, y -> y.keep(0, 0), STATE);
        CHECK.on("32: 'NULL'");
        for (int row = Rich.MISSING; row < 8; row++) {
            int missing = row;
            CHECK.refused("keep(" + row + ", 0)", x, y -> y.keep(missing, 0), NULL);
        }
    }

    // ---- 33 to 35

    private static void count() {
        CHECK.on("33: 'How many'");
        Desk x = Rich.turned();
        int[] due = {Rich.JOINTS, 2, Rich.BARS, Rich.WHEELS, Rich.COUPLINGS, Rich.PARTS, 1, 5, 12, 5, 2, 0};
        for (int what = 0; what < 12; what++) {
            CHECK.due("count(" + what + ")", x.count(what), due[what]);
        }
        CHECK.on("33: '9 ROWS that are there': none to all, one without an ITEM, too");
        Desk y = new Desk();
        for (int row = 0; row < 8; row++) {
            CHECK.due("count(9)", y.count(9), row);
            y.lay(row, 0, 0);
        }
        CHECK.due("count(9)", y.count(9), 8);
        y.lay(3, 1, 4);
        CHECK.due("laid anew", y.count(9), 8);
        y.drop(7);
        CHECK.due("dropped", y.count(9), 7);
        CHECK.on("33: '10 the DRIVEN JOINT (NONE), 11 the one about which it is (NONE)'");
        CHECK.due("none DRIVEN: 10", Rich.undriven().count(10), NONE);
        CHECK.due("none DRIVEN: 11", Rich.undriven().count(11), NONE);
        Desk z = Desk.of("joint m 5 0;ground o 0 0;bar m o;drive m about o;");
        CHECK.due("JOINT 0: 10", z.count(10), 0);
        CHECK.due("about JOINT 1: 11", z.count(11), 1);
    }

    private static void countBad() {
        CHECK.on("33: 'BAD'");
        Desk x = Rich.turned();
        CHECK.refused("count(12)", x, y -> y.count(12), BAD);
        for (int n : FAR) {
            CHECK.refused("count(" + n + ")", x, y -> y.count(n), BAD);
        }
    }

    /** What status() is behind a call, on a desk where it was 3. */
    private static void statusBehind(String call, Desk.Call made, int due) {
        Desk x = Rich.turned();
        x.call(made);
        CHECK.due("behind " + call, x.status(), due);
        CHECK.due("behind " + call + ", asked again", x.status(), due);
    }

    private static void status() {
        CHECK.on("34: 'or there was none'");
        CHECK.due("a new object", new Desk().status(), 0);
        CHECK.on("34: 'the number of its FINDING'");
        statusBehind("drop, NULL", y -> y.drop(5), 1);
        statusBehind("put, NULL", y -> y.put(5, 0, 0), 1);
        statusBehind("get, NULL", y -> y.get(5, 0), 1);
        statusBehind("move, NULL", y -> y.move(5, 0, 0, 0, 0), 1);
        statusBehind("keep, NULL", y -> y.keep(5, 0), 1);
        statusBehind("put, PLACE", y -> y.put(0, 4, 0), 2);
        statusBehind("get, PLACE", y -> y.get(0, 4), 2);
        statusBehind("move, PLACE", y -> y.move(0, 0, 0, 0, 5), 2);
        statusBehind("lay, SIZE", y -> y.lay(0, 0, -1), 4);
        statusBehind("ask, NOUGHT", y -> y.ask(Rich.GROUND, 2), 5);
        statusBehind("move, STORE", y -> y.move(0, 0, 1, 0, 0), 6);
        Desk x = Rich.turned();
        x.get(5, 0);
        x.as(Rich.PIN, 1);
        CHECK.due("behind as, KIND", x.status(), 3);
        CHECK.on("34: '0: it had none'");
        statusBehind("ask", y -> y.ask(0, 0), 0);
        statusBehind("as", y -> y.as(0, 0), 0);
        statusBehind("lay", y -> y.lay(0, 0, 0), 0);
        statusBehind("drop", y -> y.drop(0), 0);
        statusBehind("put", y -> y.put(0, 0, 0), 0);
        statusBehind("get", y -> y.get(0, 0), 0);
        statusBehind("move", y -> y.move(0, 0, 0, 0, 0), 0);
        statusBehind("keep", y -> y.keep(4, 0), 0);
    }

    private static void statusStays() {
        CHECK.on("34: 'that was not BAD, nor STATE'");
        statusBehind("ask, BAD", y -> y.ask(-1, 0), 3);
        statusBehind("as, BAD", y -> y.as(-1, 0), 3);
        statusBehind("lay, BAD", y -> y.lay(0, 0, 301), 3);
        statusBehind("drop, BAD", y -> y.drop(8), 3);
        statusBehind("put, BAD", y -> y.put(8, 0, 0), 3);
        statusBehind("get, BAD", y -> y.get(8, 0), 3);
        statusBehind("move, BAD", y -> y.move(8, 0, 0, 0, 0), 3);
        statusBehind("keep, BAD", y -> y.keep(8, 0), 3);
        Desk still = Rich.unturned();
        CHECK.due("keep, STATE", still.keep(0, 0), STATE);
        CHECK.due("behind keep, STATE", still.status(), 3);
        CHECK.on("34: 'Of the latest ask(), .. keep()': no other call");
        statusBehind("feed", y -> y.feed(1, 32), 3);
        statusBehind("feed, BAD", y -> y.feed(9, 32), 3);
        statusBehind("read", LinkageCurves::read, 3);
        statusBehind("place", LinkageCurves::place, 3);
        statusBehind("part", y -> y.part(0, 0), 3);
        statusBehind("needed", y -> y.needed(0), 3);
        statusBehind("together", y -> y.together(0, 0), 3);
        statusBehind("cluster", y -> y.cluster(0), 3);
        statusBehind("mobility", LinkageCurves::mobility, 3);
        statusBehind("rank", y -> y.rank(0), 3);
        statusBehind("motion", y -> y.motion(0, 0, 0), 3);
        statusBehind("pose", y -> y.pose(0), 3);
        statusBehind("at", y -> y.at(0, 0), 3);
        statusBehind("why", y -> y.why(0), 3);
        statusBehind("order", y -> y.order(0, 0), 3);
        statusBehind("flip", y -> y.flip(3), 3);
        statusBehind("trace", y -> y.trace(3), 3);
        statusBehind("curve", y -> y.curve(0, 0), 3);
        statusBehind("told", y -> y.told(0), 3);
        statusBehind("ratio", y -> y.ratio(0, 0, 0), 3);
        statusBehind("lock", LinkageCurves::lock, 3);
        statusBehind("fourBars", y -> y.fourBars(1, 1, 1, 1), 3);
        statusBehind("trail", y -> y.trail(0), 3);
        statusBehind("is", y -> y.is(0, 0), 3);
        statusBehind("is, 0", y -> y.is(0, 6), 3);
        statusBehind("count", y -> y.count(0), 3);
        statusBehind("digest", LinkageCurves::digest, 3);
    }

    private static long mix(long h, long... values) {
        BigInteger mixed = BigInteger.valueOf(h);
        for (long v : values) {
            mixed = mixed.multiply(BigInteger.valueOf(31)).add(BigInteger.valueOf(v));
        }
        return mixed.longValue();
    }

    private static void digestOfParts() {
        CHECK.on("35: 'of each PART KIND and what part() tells with 2 and 3'");
        CHECK.due("none", new Desk().digest(), mix(17, 0, 0, 0, 0, 0, 0, 0, 0));
        CHECK.due("one", Desk.of("joint a -1000 1000;").digest(), mix(17, 0, -1000, 1000, 0, 0, 0, 0, 0, 0, 0, 0));
        CHECK.due("one of each", Desk.of("joint a -1 4;ground b 5 -6;bar b a;wheel u at b 3;wheel v at a 200;mesh v u;belt u v;shaft v u;")
            .digest(), mix(17, 0, -1, 4, 1, 5, -6, 2, 1, 0, 3, 1, 3, 3, 0, 200, 4, 1, 0, 5, 0, 1, 6, 1, 0, 0, 0, 0, 0, 0, 0, 0, 0));
        Desk x = Desk.of(Rich.DRIVEN);
        long before = x.digest();
        x.pose(9);
        x.trace(3);
        x.flip(3);
        x.feed(8, -1);
        x.ask(0, 0);
        CHECK.due("nothing else is in it", x.digest(), before);
    }

    private static void digestOfRows() {
        CHECK.on("35: 'of each ROW 0 (missing), or its LANE and 1, and its ITEMS'");
        for (int lane = 0; lane < 4; lane++) {
            Desk x = new Desk();
            x.lay(0, lane, 0);
            CHECK.due("LANE " + lane + " without an ITEM", x.digest(), mix(17, lane + 1, 0, 0, 0, 0, 0, 0, 0));
            x.lay(0, lane, 1);
            CHECK.due("LANE " + lane + " with 0", x.digest(), mix(17, lane + 1, 0, 0, 0, 0, 0, 0, 0, 0));
            x.put(0, 0, -1);
            CHECK.due("LANE " + lane + " with -1", x.digest(), mix(17, lane + 1, -1, 0, 0, 0, 0, 0, 0, 0));
            x.drop(0);
            CHECK.due("dropped", x.digest(), mix(17, 0, 0, 0, 0, 0, 0, 0, 0));
            x.lay(7, lane, 2);
            CHECK.due("the last ROW", x.digest(), mix(17, 0, 0, 0, 0, 0, 0, 0, lane + 1, 0, 0));
        }
        CHECK.on("35: 'h = 31 h + v', which wraps around");
        Desk x = new Desk();
        x.lay(2, 3, 300);
        long[] values = new long[308];
        values[2] = 4;
        for (int i = 0; i < 300; i++) {
            values[3 + i] = i % 2 == 0 ? Long.MAX_VALUE - i : Long.MIN_VALUE + i;
            x.put(2, i, values[3 + i]);
        }
        CHECK.due("300 longs", x.digest(), mix(17, values));
    }
}
