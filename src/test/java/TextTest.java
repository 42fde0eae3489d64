/** Promises 1 to 5: a new object, feed, read, place, part. */
public final class TextTest {
    private static final int NONE = LinkageCurves.NONE, BAD = LinkageCurves.BAD;
    private static final String JOINTS = "ground a 0 0;joint b 5 0;joint c 5 5;joint d 0 5;joint e 0 5;";
    private static final String WHEELS = JOINTS + "wheel u at a 10;wheel v at b 20;wheel w at a 30;";
    private static final Check CHECK = new Check();

    public static void main(String[] args) {
        newObject();
        feeding();
        tokens();
        misplaced();
        names();
        bounds();
        limits();
        pairs();
        drives();
        faultKeepsLinkage();
        readForgets();
        parts();
        CHECK.end();
    }

    /** What a text behind others answers, and the place where its FAULT is. */
    private static void fault(String before, String text, int number, int place) {
        Desk x = new Desk();
        CHECK.due("read of '" + text + "'", x.read(before + text), -10 - number);
        CHECK.due("place in '" + text + "'", x.place(), before.length() + place);
        CHECK.due("the tape behind '" + text + "'", x.count(8), 0);
    }

    private static void fine(String text, int parts) {
        Desk x = new Desk();
        CHECK.due("read of '" + text + "'", x.read(text), parts);
        CHECK.due("place in '" + text + "'", x.place(), NONE);
        CHECK.due("parts of '" + text + "'", x.count(5), parts);
    }

    private static void newObject() {
        Desk x = new Desk();
        for (int i = 0; i < 10; i++) {
            CHECK.due("new: count " + i, x.count(i), 0);
        }
        CHECK.due("new: count 10", x.count(10), NONE);
        CHECK.due("new: count 11", x.count(11), NONE);
        CHECK.due("new: place", x.place(), NONE);
        CHECK.due("new: mobility", x.mobility(), 0);
        CHECK.due("new: rank 0", x.rank(0), 0);
        CHECK.due("new: pose", x.pose(0), LinkageCurves.STATE);
        CHECK.due("new: told", x.told(0), LinkageCurves.STATE);
        CHECK.due("new: keep", x.keep(0, 0), LinkageCurves.STATE);
        CHECK.due("new: lock", x.lock(), NONE);
        CHECK.due("new: trail", x.trail(0), NONE);
        CHECK.due("new: status", x.status(), 0);
        CHECK.due("new: get", x.get(0, 0), -1000011);
    }

    private static void feeding() {
        Desk x = new Desk();
        for (int n : new int[] {0, 9, -1, Integer.MIN_VALUE, Integer.MAX_VALUE}) {
            CHECK.due("feed " + n, x.feed(n, 0x2020202020202020L), BAD);
        }
        CHECK.due("tape behind BAD", x.count(8), 0);
        for (int i = 1; i <= 149; i++) {
            CHECK.due("feed 8", x.feed(8, 0x2020202020202020L), 8 * i);
        }
        CHECK.due("feed 7", x.feed(7, 0x2020202020202020L), 1199);
        CHECK.due("feed 2 is too much", x.feed(2, 0x3b3b), LinkageCurves.FULL);
        CHECK.due("none has come", x.count(8), 1199);
        CHECK.due("BAD ahead of FULL", x.feed(9, 0), BAD);
        CHECK.due("feed 1", x.feed(1, 0x20), 1200);
        CHECK.due("feed 1 more", x.feed(1, 0x20), LinkageCurves.FULL);
        CHECK.due("read of spaces", x.read(), 0);
        CHECK.due("the tape is empty then", x.count(8), 0);
        // The lowest bytes come first, those above n are left out.
        x.feed(3, 0x7a7a726162L);
        CHECK.due("bar is no joint", x.read(), -12);
        CHECK.due("at the end", x.place(), 3);
    }

    private static void tokens() {
        fine("", 0);
        fine(" \n \n", 0);
        fine("joint a1-2;", 1);
        fine("joint\na\n-0 0007\n;", 1);
        fine("joint abcdef 0 0;joint groun -1000 1000;", 2);
        fault("", "joint abcdefg 0 0;", 1, 6);
        fault("", "joints 0 0;", 2, 0);
        fault("", "grounds a 0 0;", 1, 0);
        fault("", "joint a 12345 0;", 1, 8);
        fault("", "joint a -12345 0;", 1, 8);
        fault("", "joint a - 5 0;", 1, 8);
        fault("", "joint a --5 0;", 1, 8);
        fault("", "joint a 0 0-;", 1, 11);
        fault("", "joint a 00000 0;", 1, 8);
        fault("", "\tjoint a 0 0;", 1, 0);
        fault("", "  \r", 1, 2);
        fault("", "joint A 0 0;", 1, 6);
        fault("", "joint \u00e1 0 0;", 1, 6);
        fault("", "joint a +1 0;", 1, 8);
        fault("", "\u0000", 1, 0);
        Desk x = Desk.of("joint a1-2;joint b-0 0007;");
        CHECK.due("a1-2: x", x.part(0, 2), 1);
        CHECK.due("a1-2: y", x.part(0, 3), -2);
        CHECK.due("-0", x.part(1, 2), 0);
        CHECK.due("0007", x.part(1, 3), 7);
    }

    private static void misplaced() {
        fault("", ";", 2, 0);
        fault("", "a", 2, 0);
        fault("", "5", 2, 0);
        fault("", "at", 2, 0);
        fault("", "about", 2, 0);
        fault("", "joint", 2, 5);
        fault("", "joint a 0 0 ", 2, 12);
        fault("", "joint bar 0 0;", 2, 6);
        fault("", "joint 5 0 0;", 2, 6);
        fault("", "joint a b 0;", 2, 8);
        fault("", "joint a 0;", 2, 9);
        fault("", "joint a 0 0 0;", 2, 12);
        fault(JOINTS, "bar a;", 2, 5);
        fault(JOINTS, "bar a b c;", 2, 8);
        fault(JOINTS, "bar a joint;", 2, 6);
        fault(JOINTS, "chain a;", 2, 7);
        fault(JOINTS, "chain;", 2, 5);
        fault(JOINTS, "chain a b", 2, 9);
        fault(JOINTS, "chain a b 5;", 2, 10);
        fault(JOINTS, "frame a b;", 2, 9);
        fault(JOINTS, "wheel u a 10;", 2, 8);
        fault(JOINTS, "wheel u about a 10;", 2, 8);
        fault(JOINTS, "wheel u at a;", 2, 12);
        fault(WHEELS, "mesh u;", 2, 6);
        fault(WHEELS, "mesh u v w;", 2, 9);
        fault(JOINTS, "bar a b;drive b at a;", 2, 16);
        fault(JOINTS, "bar a b;drive b about a", 2, 23);
        fault(JOINTS, "bar a b;drive about b;", 2, 14);
    }

    private static void names() {
        fault(JOINTS, "joint a 0 0;", 3, 6);
        fault(JOINTS, "ground b 0 0;", 3, 7);
        fault(WHEELS, "joint u 0 0;", 3, 6);
        fault(WHEELS, "wheel u at a 5;", 3, 6);
        fault(WHEELS, "wheel a at a 5;", 3, 6);
        fault(JOINTS, "bar a z;", 4, 6);
        fault(JOINTS, "bar z a;", 4, 4);
        fault(WHEELS, "bar a u;", 4, 6);
        fault(WHEELS, "chain a b u;", 4, 10);
        fault(JOINTS, "frame z a b;", 4, 6);
        fault(WHEELS, "wheel z at u 5;", 4, 11);
        fault(JOINTS, "wheel z at z 5;", 4, 11);
        fault(WHEELS, "mesh u a;", 4, 7);
        fault(WHEELS, "belt z u;", 4, 5);
        fault(WHEELS, "shaft u z;", 4, 8);
        fault(WHEELS, "drive u about a;", 4, 6);
        fault(WHEELS, "drive b about u;", 4, 14);
    }

    private static void bounds() {
        fine("joint a -1000 1000;joint b 1000 -1000;", 2);
        fault("", "joint a 1001 0;", 5, 8);
        fault("", "joint a 0 -1001;", 5, 10);
        fault("", "ground a -9999 0;", 5, 9);
        fine(JOINTS + "wheel u at a 3;wheel v at a 200;", 7);
        fault(JOINTS, "wheel u at a 2;", 5, 13);
        fault(JOINTS, "wheel u at a 201;", 5, 13);
        fault(JOINTS, "wheel u at a -5;", 5, 13);
    }

    private static String manyJoints(int n) {
        StringBuilder b = new StringBuilder();
        for (int i = 0; i < n; i++) {
            b.append("joint ").append((char) ('a' + i)).append(' ').append(i).append(' ').append(i * i).append(';');
        }
        return b.toString();
    }

    /** Each of the first twelve JOINTS with each of the next ones, five rounds: 60 BARS. */
    private static String manyBars(int n) {
        StringBuilder b = new StringBuilder();
        for (int i = 0; i < n; i++) {
            b.append("bar ").append((char) ('a' + i % 12)).append(' ').append((char) ('a' + 12 + (i + i / 12) % 12)).append(';');
        }
        return b.toString();
    }

    private static String manyWheels(int n) {
        StringBuilder b = new StringBuilder("joint j 0 0;");
        for (int i = 0; i < n; i++) {
            b.append("wheel w").append((char) ('a' + i)).append(" at j 10;");
        }
        return b.toString();
    }

    private static void limits() {
        fine(manyJoints(24), 24);
        fault(manyJoints(24), "joint z 0 0;", 6, 6);
        fault(manyJoints(24), "ground z 2000 0;", 6, 7);
        fault(manyJoints(24), "joint a 0 0;", 3, 6);
        fine(manyWheels(16), 17);
        fault(manyWheels(16), "wheel z at j 5;", 6, 6);
        fault(manyWheels(16), "wheel wa at j 5;", 3, 6);
        String most = manyJoints(24) + manyBars(60);
        fine(most, 84);
        fault(most, "bar a b;", 6, 6);
        fault(most, "bar a a;", 6, 6);
        fault(most, "bar a zz;", 4, 6);
        fault(most, "chain a b c;", 6, 8);
        fault(manyJoints(24) + manyBars(59), "chain a b c;", 6, 10);
        fault(manyJoints(24) + manyBars(58), "frame a b c;", 6, 11);
        fine(manyJoints(24) + manyBars(57) + "frame a b c;", 84);
        StringBuilder couplings = new StringBuilder(manyWheels(16));
        for (int i = 0; i < 30; i++) {
            couplings.append("belt wa wb;");
        }
        fine(couplings.toString(), 47);
        fault(couplings.toString(), "shaft wa wb;", 6, 9);
        fault(couplings.toString(), "mesh wa wa;", 6, 8);
    }

    private static void pairs() {
        fault(JOINTS, "bar a a;", 7, 6);
        fault(JOINTS, "bar d e;", 7, 6);
        fault(JOINTS, "bar a b;bar a b;", 7, 14);
        fault(JOINTS, "bar a b;bar b a;", 7, 14);
        fault(JOINTS, "chain a b a;", 7, 10);
        fault(JOINTS, "frame a b a;", 7, 10);
        fault(JOINTS, "frame a b c a;", 7, 13);
        fault(JOINTS, "bar c a;frame a b c ;", 7, 20);
        fault(JOINTS, "frame d a e;", 7, 11);
        fine(JOINTS + "frame a b c;", 8);
        fine(JOINTS + "chain a b c d;", 8);
        fault(WHEELS, "mesh u u;", 7, 7);
        fault(WHEELS, "belt u u;", 7, 7);
        fault(WHEELS, "shaft u u;", 7, 8);
        fault(WHEELS, "mesh u w;", 7, 7);
        fine(WHEELS + "belt u w;shaft u w;mesh u v;mesh u v;mesh v u;shaft u v;", 14);
    }

    private static void drives() {
        String bars = JOINTS + "ground g 9 9;chain a b c;bar a g;";
        fine(bars + "drive b about a;", 9);
        fault(bars, "drive a about b;", 8, 14);
        fault(bars, "drive c about b;", 8, 14);
        fault(bars, "drive g about a;", 8, 14);
        fault(bars, "drive c about a;", 8, 14);
        fault(bars, "drive b about b;", 8, 14);
        fault(bars, "drive b about a;drive b about a;", 8, 30);
        fault(JOINTS, "drive b about a;bar a b;", 8, 14);
        Desk x = Desk.of(bars + "drive b about a;");
        CHECK.due("driven", x.count(10), 1);
        CHECK.due("about", x.count(11), 0);
    }

    private static void faultKeepsLinkage() {
        Desk x = Desk.of("ground a 0 0;joint b 5 0;bar a b;drive b about a;");
        CHECK.due("pose", x.pose(0), 2);
        CHECK.due("trace", x.trace(1), 256);
        long before = x.digest();
        CHECK.due("a text with a FAULT", x.read("joint z 0 0;joint z 0 0;"), -13);
        CHECK.due("its place", x.place(), 18);
        CHECK.due("the linkage stays", x.digest(), before);
        CHECK.due("the pose stays", x.at(1, 0), 5120);
        CHECK.due("the curve stays", x.curve(0, 0), 5120);
        CHECK.due("driven stays", x.count(10), 1);
        CHECK.due("an empty text is a linkage", x.read(), 0);
        CHECK.due("place then", x.place(), NONE);
        CHECK.due("parts then", x.count(5), 0);
        CHECK.due("driven then", x.count(10), NONE);
    }

    private static void readForgets() {
        String text = "ground a 0 0;ground b 40 0;joint c 0 10;joint d 40 30;chain a c d b;drive c about a;";
        Desk x = Desk.of(text);
        CHECK.due("flip", x.flip(3), -1);
        CHECK.due("pose", x.pose(0), 4);
        CHECK.due("trace", x.trace(3), 256);
        CHECK.due("read again", x.read(text), 7);
        CHECK.due("no pose", x.at(0, 0), LinkageCurves.STATE);
        CHECK.due("no why", x.why(0), LinkageCurves.STATE);
        CHECK.due("no curve", x.curve(0, 0), LinkageCurves.STATE);
        CHECK.due("no told", x.told(0), LinkageCurves.STATE);
        CHECK.due("no flips", x.flip(3), -1);
    }

    private static void parts() {
        Desk x = Desk.of("joint a -3 4;ground b 5 6;joint c 7 8;frame a b c;wheel u at c 12;wheel v at a 9;"
            + "mesh u v;belt v u;shaft u v;joint d 1 2;bar d a;");
        int[][] due = {{0, 0, -3, 4}, {1, 1, 5, 6}, {0, 2, 7, 8}, {2, 0, 0, 1}, {2, 1, 1, 2}, {2, 2, 2, 0}, {3, 0, 2, 12},
            {3, 1, 0, 9}, {4, 0, 0, 1}, {5, 1, 1, 0}, {6, 2, 0, 1}, {0, 3, 1, 2}, {2, 3, 3, 0}};
        CHECK.due("parts", x.count(5), due.length);
        for (int part = 0; part < due.length; part++) {
            for (int what = 0; what < 4; what++) {
                CHECK.due("part " + part + " " + what, x.part(part, what), due[part][what]);
            }
        }
        CHECK.due("part -1", x.part(-1, 0), BAD);
        CHECK.due("part 13", x.part(13, 0), BAD);
        CHECK.due("part what -1", x.part(0, -1), BAD);
        CHECK.due("part what 4", x.part(0, 4), BAD);
    }
}
