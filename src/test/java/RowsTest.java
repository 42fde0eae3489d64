/** Promises 27 to 35: lay, drop, put, get, move, keep, count, status, digest. */
public final class RowsTest {
    private static final int BAD = LinkageCurves.BAD, STATE = LinkageCurves.STATE, NONE = LinkageCurves.NONE;
    private static final int NULL = -1000011, PLACE = -1000012, SIZE = -1000014, STORE = -1000016;
    private static final int[] FAR = {-1, 8, Integer.MIN_VALUE, Integer.MAX_VALUE};
    private static final Check CHECK = new Check();

    public static void main(String[] args) {
        laying();
        dropping();
        lanes();
        places();
        moving();
        movingRefused();
        keeping();
        counting();
        statuses();
        digests();
        CHECK.end();
    }

    private static void laying() {
        Desk x = new Desk();
        CHECK.due("lay none", x.lay(0, 0, 0), 0);
        CHECK.due("lay 300", x.lay(7, 3, 300), 300);
        CHECK.due("lay 301", x.lay(7, 3, 301), BAD);
        CHECK.due("lay far", x.lay(7, 3, Integer.MAX_VALUE), BAD);
        CHECK.due("lay -1", x.lay(7, 3, -1), SIZE);
        CHECK.due("status", x.status(), 4);
        CHECK.due("it stays", x.get(7, 299), 0);
        CHECK.due("lay least", x.lay(7, 3, Integer.MIN_VALUE), SIZE);
        for (int n : FAR) {
            CHECK.due("lay row " + n, x.lay(n, 0, 1), BAD);
            CHECK.due("lay lane " + n, x.lay(0, n, 1), BAD);
            CHECK.due("BAD ahead of SIZE", x.lay(n, 0, -1), BAD);
        }
        CHECK.due("lay lane 4", x.lay(0, 4, 1), BAD);
        x.put(7, 5, 77);
        CHECK.due("lay anew", x.lay(7, 2, 10), 10);
        CHECK.due("0 at first", x.get(7, 5), 0);
        CHECK.due("shorter now", x.get(7, 10), PLACE);
        x.put(7, 9, 5);
        x.lay(7, 2, 3);
        x.lay(7, 2, 20);
        CHECK.due("0 at first, too", x.get(7, 9), 0);
    }

    private static void dropping() {
        Desk x = new Desk();
        CHECK.due("drop a missing one", x.drop(3), NULL);
        CHECK.due("status", x.status(), 1);
        x.lay(3, 1, 17);
        CHECK.due("drop", x.drop(3), 17);
        CHECK.due("status", x.status(), 0);
        CHECK.due("gone", x.get(3, 0), NULL);
        CHECK.due("drop again", x.drop(3), NULL);
        x.lay(3, 1, 0);
        CHECK.due("drop an empty one", x.drop(3), 0);
        for (int n : FAR) {
            CHECK.due("drop " + n, x.drop(n), BAD);
        }
    }

    private static void lanes() {
        Desk x = new Desk();
        long[] values = {0, 127, 128, -129, 255, 32768, -32769, 0x80000000L, -0x80000001L, Long.MIN_VALUE, Long.MAX_VALUE,
            0x123456789abcdef0L};
        for (int lane = 0; lane < 4; lane++) {
            x.lay(lane, lane, 1);
            for (long v : values) {
                long due = lane == 0 ? (byte) v : lane == 1 ? (short) v : lane == 2 ? (int) v : v;
                CHECK.due("put " + v + " in lane " + lane, x.put(lane, 0, v), due);
                CHECK.due("get " + v + " in lane " + lane, x.get(lane, 0), due);
            }
        }
    }

    private static void places() {
        Desk x = new Desk();
        CHECK.due("put into none", x.put(0, 0, 1), NULL);
        CHECK.due("get of none", x.get(0, -1), NULL);
        x.lay(0, 3, 4);
        for (int i : new int[] {-1, 4, Integer.MIN_VALUE, Integer.MAX_VALUE}) {
            CHECK.due("put at " + i, x.put(0, i, 9), PLACE);
            CHECK.due("status", x.status(), 2);
            CHECK.due("get at " + i, x.get(0, i), PLACE);
        }
        for (int n : FAR) {
            CHECK.due("put row " + n, x.put(n, 0, 9), BAD);
            CHECK.due("get row " + n, x.get(n, 0), BAD);
        }
        CHECK.due("put at the end", x.put(0, 3, 9), 9);
        CHECK.due("get at the end", x.get(0, 3), 9);
        CHECK.due("the others stay", x.get(0, 2), 0);
        CHECK.due("status", x.status(), 0);
    }

    private static Desk numbered() {
        Desk x = new Desk();
        x.lay(0, 2, 6);
        x.lay(1, 2, 4);
        x.lay(2, 3, 6);
        for (int i = 0; i < 6; i++) {
            x.put(0, i, 10 + i);
        }
        return x;
    }

    private static void row(Desk x, String what, int row, long... due) {
        for (int i = 0; i < due.length; i++) {
            CHECK.due(what + ": item " + i, x.get(row, i), due[i]);
        }
    }

    private static void moving() {
        Desk x = numbered();
        CHECK.due("move", x.move(0, 1, 1, 2, 2), 2);
        row(x, "move", 1, 0, 0, 11, 12);
        CHECK.due("move up in one row", x.move(0, 0, 0, 1, 5), 5);
        row(x, "move up", 0, 10, 10, 11, 12, 13, 14);
        CHECK.due("move down in one row", x.move(0, 2, 0, 0, 4), 4);
        row(x, "move down", 0, 11, 12, 13, 14, 13, 14);
        CHECK.due("move none at the ends", x.move(0, 6, 1, 4, 0), 0);
        CHECK.due("move all", x.move(1, 0, 0, 2, 4), 4);
        row(x, "move all", 0, 11, 12, 0, 0, 11, 12);
    }

    private static void movingRefused() {
        Desk x = numbered();
        int[][] due = {{0, -1, 1, 0, 1}, {0, 0, 1, -1, 1}, {0, 0, 1, 0, -1}, {0, 5, 1, 0, 2}, {0, 0, 1, 3, 2}, {0, 7, 1, 0, 0},
            {0, 0, 1, 5, 0}, {0, Integer.MAX_VALUE, 1, 0, 1}, {0, 0, 1, Integer.MAX_VALUE, Integer.MAX_VALUE},
            {0, 1, 1, 1, Integer.MAX_VALUE}, {0, Integer.MIN_VALUE, 1, 0, Integer.MIN_VALUE}, {0, 0, 0, 1, 6}};
        for (int[] d : due) {
            CHECK.due("move " + d[1] + " " + d[3] + " " + d[4], x.move(d[0], d[1], d[2], d[3], d[4]), PLACE);
            CHECK.due("status", x.status(), 2);
        }
        row(x, "nothing moved", 1, 0, 0, 0, 0);
        CHECK.due("two lanes", x.move(0, 0, 2, 0, 1), STORE);
        CHECK.due("status", x.status(), 6);
        CHECK.due("two lanes ahead of places", x.move(0, -1, 2, 0, 1), STORE);
        CHECK.due("two lanes with none", x.move(0, 0, 2, 0, 0), STORE);
        CHECK.due("no a", x.move(5, 0, 2, 0, 1), NULL);
        CHECK.due("no b", x.move(2, 0, 5, 0, 1), NULL);
        CHECK.due("missing ahead of places", x.move(5, -1, 5, 0, 1), NULL);
        CHECK.due("status", x.status(), 1);
        for (int n : FAR) {
            CHECK.due("move from " + n, x.move(n, 0, 0, 0, 0), BAD);
            CHECK.due("move to " + n, x.move(5, 0, n, 0, 0), BAD);
        }
    }

    private static void keeping() {
        Desk x = Desk.of("ground a 0 0;ground b 30 0;joint c 10 0;joint d 20 5;chain a c d b;drive c about a;");
        x.lay(0, 3, 300);
        x.lay(1, 1, 256);
        x.lay(2, 0, 0);
        CHECK.due("no curve", x.keep(0, 0), STATE);
        CHECK.due("no curve ahead of NULL", x.keep(5, 0), STATE);
        CHECK.due("status", x.status(), 0);
        x.trace(3);
        x.put(0, 256, 77);
        x.put(0, 128, 66);
        CHECK.due("keep x", x.keep(0, 0), 256);
        CHECK.due("keep y", x.keep(1, 1), 256);
        CHECK.due("keep none", x.keep(2, 0), 0);
        for (int i = 0; i < 256; i++) {
            Desk y = x.again();
            long atX = y.curve(i, 0);
            long atY = y.curve(i, 1);
            CHECK.due("x " + i, y.get(0, i), atX == NONE ? 0 : atX);
            CHECK.due("y " + i, y.get(1, i), atY == NONE ? 0 : (short) atY);
        }
        CHECK.due("128 is not placed", x.curve(128, 0), NONE);
        CHECK.due("beyond the curve", x.get(0, 256), 77);
        CHECK.due("missing", x.keep(5, 0), NULL);
        CHECK.due("status", x.status(), 1);
        for (int n : FAR) {
            CHECK.due("keep row " + n, x.keep(n, 0), BAD);
            CHECK.due("keep axis " + n, x.keep(0, n), BAD);
        }
        CHECK.due("keep axis 2", x.keep(0, 2), BAD);
        CHECK.due("an empty linkage", x.read(), 0);
        CHECK.due("has no curve", x.keep(0, 0), STATE);
        CHECK.due("status stays", x.status(), 1);
        CHECK.due("rows stay", x.get(0, 256), 77);
    }

    private static void counting() {
        Desk x = Desk.of("ground a 0 0;joint b 5 0;ground c 9 9;ground e 1 8;chain a b c;wheel u at a 5;"
            + "wheel v at b 6;wheel w at b 6;wheel z at c 9;mesh u v;belt v w;shaft w z;belt u z;belt z u;drive b about c;");
        x.lay(2, 0, 0);
        x.lay(6, 3, 4);
        x.feed(5, 0);
        int[] due = {4, 3, 2, 4, 5, 15, 3, 1, 5, 2, 1, 2};
        for (int what = 0; what < due.length; what++) {
            CHECK.due("count " + what, x.count(what), due[what]);
        }
        x.drop(2);
        CHECK.due("count 9 then", x.count(9), 1);
        for (int n : new int[] {-1, 12, Integer.MIN_VALUE, Integer.MAX_VALUE}) {
            CHECK.due("count " + n, x.count(n), BAD);
        }
    }

    private static void statuses() {
        Desk x = Desk.of("ground g 0 0;");
        CHECK.due("at first", x.status(), 0);
        x.ask(0, 2);
        CHECK.due("NOUGHT", x.status(), 5);
        x.ask(0, 0);
        CHECK.due("none", x.status(), 0);
        x.as(0, 3);
        CHECK.due("KIND", x.status(), 3);
        x.get(9, 9);
        x.put(-1, 0, 0);
        x.lay(0, 0, 301);
        x.drop(8);
        x.move(8, 0, 0, 0, 0);
        x.keep(0, 0);
        x.is(0, 0);
        x.pose(0);
        x.trail(0);
        x.count(0);
        x.read();
        CHECK.due("BAD, STATE and others leave it", x.status(), 3);
        x.lay(0, 0, 2);
        CHECK.due("lay", x.status(), 0);
        x.get(0, 2);
        CHECK.due("PLACE", x.status(), 2);
        x.put(0, 0, 5);
        CHECK.due("put", x.status(), 0);
        x.get(0, 2);
        x.get(0, 0);
        CHECK.due("get", x.status(), 0);
        x.get(0, 2);
        x.move(0, 0, 0, 0, 0);
        CHECK.due("move", x.status(), 0);
        x.get(0, 2);
        x.drop(0);
        CHECK.due("drop", x.status(), 0);
    }

    private static long mix(long h, long... values) {
        long mixed = h;
        for (long v : values) {
            mixed = 31 * mixed + v;
        }
        return mixed;
    }

    private static void digests() {
        Desk x = new Desk();
        CHECK.due("nothing", x.digest(), 14499147636497L);
        x.lay(1, 0, 0);
        CHECK.due("an empty row of bytes", x.digest(), mix(17, 0, 1, 0, 0, 0, 0, 0, 0));
        x.lay(1, 3, 2);
        x.put(1, 1, -5);
        CHECK.due("a row of longs", x.digest(), mix(17, 0, 4, 0, -5, 0, 0, 0, 0, 0, 0));
        x.read("joint p -3 4;ground g 6 7;bar p g;wheel u at p 12;wheel v at g 9;mesh v u;");
        CHECK.due("parts ahead", x.digest(), mix(17, 0, -3, 4, 1, 6, 7, 2, 0, 1, 3, 0, 12, 3, 1, 9, 4, 1, 0,
            0, 4, 0, -5, 0, 0, 0, 0, 0, 0));
        x.drop(1);
        CHECK.due("dropped", x.digest(), mix(17, 0, -3, 4, 1, 6, 7, 2, 0, 1, 3, 0, 12, 3, 1, 9, 4, 1, 0,
            0, 0, 0, 0, 0, 0, 0, 0));
    }
}
