/** Desks on which much has been done, so that a refused call which changes something is seen. */
final class Rich {
    /** JOINTS a b c d e l are 0 to 5 (l is LOOSE, d and e HANG), BARS 0 to 6 (the last one SPARE), WHEELS u v w. */
    static final String UNDRIVEN = "ground a 0 0;ground b 30 0;joint c 10 0;joint d 20 5;joint e 20 15;joint l 1 9;"
        + "chain a c d b;bar e d;bar e b;bar l a;bar a b;wheel u at a 12;wheel v at b 30;wheel w at b 8;"
        + "mesh u v;shaft v w;belt w u;";
    static final String DRIVEN = UNDRIVEN + "drive c about a;";
    static final int JOINTS = 6, BARS = 7, WHEELS = 3, COUPLINGS = 3, PARTS = 19;
    /** Numbers of PARTS. */
    static final int GROUND = 0, PIN = 3, BAR = 6, WHEEL = 13, MESH = 16, SHAFT = 17, BELT = 18;
    /** ROWS: 0 bytes, 1 shorts, 2 ints, 3 longs, 4 longs without an ITEM; 5 to 7 are missing. */
    static final int MISSING = 5;

    private Rich() {
    }

    /** pose() and THE CURVE are there, d is flipped; d is not placed, nor e. */
    static Desk turned() {
        Desk x = Desk.of(DRIVEN);
        x.flip(3);
        x.pose(128);
        x.trace(3);
        fill(x);
        return x;
    }

    /** A JOINT is DRIVEN, but there was no pose(), no trace(). */
    static Desk unturned() {
        Desk x = Desk.of(DRIVEN);
        x.flip(3);
        fill(x);
        return x;
    }

    static Desk undriven() {
        Desk x = Desk.of(UNDRIVEN);
        fill(x);
        return x;
    }

    /** THE TAPE has so many bytes. */
    static Desk taped(int bytes) {
        Desk x = turned();
        int length = x.count(8);
        for (; length + 8 <= bytes; length += 8) {
            x.feed(8, 0x2020202020202020L);
        }
        if (length < bytes) {
            x.feed(bytes - length, 0x2020202020202020L);
        }
        return x;
    }

    private static void fill(Desk x) {
        int[] sizes = {4, 5, 300, 6, 0};
        int[] lanes = {0, 1, 2, 3, 3};
        for (int row = 0; row < sizes.length; row++) {
            x.lay(row, lanes[row], sizes[row]);
            for (int i = 0; i < 3 && i < sizes[row]; i++) {
                x.put(row, i, 0x7766554433221100L * (row + 1) + i);
            }
        }
        x.keep(2, 0);
        x.ask(SHAFT, 2);
        x.read("joint z 1 1;joint z 0 0;");
        x.feed("joint q 5 5;");
        x.as(GROUND, 6);
    }
}
