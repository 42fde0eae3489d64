import java.util.List;

/** The edges that '1 TEXTS' and promises 1 to 5 name; FAULTS have a test of their own. */
public final class TextEdgesTest {
    private static final int NONE = LinkageCurves.NONE, BAD = LinkageCurves.BAD, STATE = LinkageCurves.STATE,
        FULL = LinkageCurves.FULL, NULL = -1000011;
    private static final int[] FAR = {-1, Integer.MIN_VALUE, Integer.MAX_VALUE};
    private static final long SPACES = 0x2020202020202020L;
    private static final Check CHECK = new Check();

    public static void main(String[] args) {
        newObject();
        feedOneToEight();
        feedLowestFirst();
        feedBad();
        feedFull();
        fullTapeIsRead();
        tapeIsEmptyThen();
        readWithoutFault();
        readBehindOthers();
        readWithFault();
        place();
        part();
        partBad();
        CHECK.end();
    }

    private static void newObject() {
        CHECK.on("1: 'A LINKAGE of nothing'");
        Desk x = new Desk();
        for (int what = 0; what < 8; what++) {
            CHECK.due("count(" + what + ")", x.count(what), 0);
        }
        CHECK.due("the DRIVEN one", x.count(10), NONE);
        CHECK.due("about which", x.count(11), NONE);
        CHECK.due("part(0, 0)", x.part(0, 0), BAD);
        CHECK.due("needed(0)", x.needed(0), BAD);
        CHECK.due("together(0, 0)", x.together(0, 0), BAD);
        CHECK.due("cluster(0)", x.cluster(0), BAD);
        CHECK.due("mobility()", x.mobility(), 0);
        for (int what = 0; what < 3; what++) {
            CHECK.due("rank(" + what + ")", x.rank(what), 0);
        }
        CHECK.due("motion(0, 0, 0)", x.motion(0, 0, 0), BAD);
        CHECK.due("ratio(0, 0, 0)", x.ratio(0, 0, 0), BAD);
        CHECK.due("lock()", x.lock(), NONE);
        CHECK.due("ask(0, 0)", x.ask(0, 0), BAD);
        CHECK.due("trail(0)", x.trail(0), NONE);
        CHECK.due("is(0, 0)", x.is(0, 0), BAD);
        CHECK.due("as(0, 0)", x.as(0, 0), BAD);
        CHECK.due("place()", x.place(), NONE);
        CHECK.due("status()", x.status(), 0);
        CHECK.on("1: 'an empty TAPE'");
        CHECK.due("count(8)", x.count(8), 0);
        CHECK.due("the first byte", new Desk().feed(1, ';'), 1);
        CHECK.on("1: 'no ROWS'");
        CHECK.due("count(9)", x.count(9), 0);
        CHECK.due("digest()", x.digest(), 14499147636497L);
        for (int row = 0; row < 8; row++) {
            CHECK.due("get(" + row + ", 0)", x.get(row, 0), NULL);
            CHECK.due("drop(" + row + ")", x.drop(row), NULL);
        }
        CHECK.on("1: 'nothing is turned'");
        CHECK.due("pose(0)", x.pose(0), STATE);
        CHECK.due("order(0, 0)", x.order(0, 0), STATE);
        CHECK.due("curve(0, 0)", x.curve(0, 0), STATE);
        CHECK.due("told(0)", x.told(0), STATE);
        CHECK.due("keep(0, 0)", x.keep(0, 0), STATE);
        CHECK.due("at(0, 0)", x.at(0, 0), BAD);
        CHECK.due("why(0)", x.why(0), BAD);
        CHECK.due("flip(0)", x.flip(0), BAD);
        CHECK.due("trace(0)", x.trace(0), BAD);
    }

    private static void feedOneToEight() {
        CHECK.on("2: 'n bytes (1 to 8)'");
        Desk x = new Desk();
        int length = 0;
        for (int n = 1; n <= 8; n++) {
            length += n;
            CHECK.due("feed(" + n + ")", x.feed(n, SPACES), length);
            CHECK.due("count(8)", x.count(8), length);
        }
    }

    private static void feedLowestFirst() {
        CHECK.on("2: 'its lowest ones first'");
        String text = "joint abcdef -1000 0987;";
        for (int n = 1; n <= 8; n++) {
            Desk x = new Desk();
            for (int i = 0; i < text.length(); i += n) {
                int last = Math.min(i + n, text.length());
                x.feed(last - i, Desk.packed(text.substring(i, last)));
            }
            CHECK.due("read() of pieces of " + n, x.read(), 1);
            CHECK.due("x", x.part(0, 2), -1000);
            CHECK.due("y", x.part(0, 3), 987);
        }
        CHECK.on("2: 'n bytes .. of a number': those above are left out");
        Desk x = new Desk();
        x.feed(7, Desk.packed("joint a!"));
        x.feed(5, Desk.packed(" 1 2;!!!"));
        CHECK.due("read()", x.read(), 1);
        CHECK.on("2: 'n bytes .. of a number': one below 0");
        x.feed(8, -1);
        CHECK.due("read() of bytes 255", x.read(), -11);
        x.feed(8, Long.MIN_VALUE);
        CHECK.due("read() of bytes 0 and 128", x.read(), -11);
        x.feed(7, Long.MIN_VALUE | SPACES & 0x00ffffffffffffffL);
        CHECK.due("read() of spaces", x.read(), 0);
    }

    private static void feedBad() {
        CHECK.on("2: 'BAD: n'");
        Desk x = Rich.turned();
        for (int n : new int[] {0, 9, -1, -8, 16, Integer.MIN_VALUE, Integer.MAX_VALUE}) {
            CHECK.refused("feed(" + n + ")", x, y -> y.feed(n, SPACES), BAD);
        }
    }

    private static void feedFull() {
        CHECK.on("1 TEXTS: 'THE TAPE has 1200 bytes at most'; 2: 'FULL: none comes'");
        for (int n = 1; n <= 8; n++) {
            int some = n;
            CHECK.due("feed(" + n + ") up to 1200", Rich.taped(1200 - n).feed(n, SPACES), 1200);
            CHECK.refused("feed(" + n + ") beyond", Rich.taped(1201 - n), y -> y.feed(some, SPACES), FULL);
            CHECK.refused("feed(" + n + ") at 1200", Rich.taped(1200), y -> y.feed(some, SPACES), FULL);
        }
        Desk x = Rich.taped(1199);
        CHECK.due("feed(2) at 1199", x.feed(2, SPACES), FULL);
        CHECK.due("fewer are taken then", x.feed(1, SPACES), 1200);
    }

    private static String spaced(int spaces, String text) {
        StringBuilder b = new StringBuilder();
        for (int i = 0; i < spaces; i++) {
            b.append(i % 7 == 0 ? '\n' : ' ');
        }
        return b.append(text).toString();
    }

    private static void fullTapeIsRead() {
        CHECK.on("1 TEXTS: 'THE TAPE has 1200 bytes at most': the last one is read, too");
        Desk x = new Desk();
        CHECK.due("feed", x.feed(spaced(1187, "joint a 0 0 ;")), 1200);
        CHECK.due("a ; at 1199", x.read(), 1);
        CHECK.due("place()", x.place(), NONE);
        x = new Desk();
        CHECK.due("feed", x.feed(spaced(1189, "joint a 0 0")), 1200);
        CHECK.due("a ; is missing", x.read(), -12);
        CHECK.due("place()", x.place(), 1200);
        x = new Desk();
        x.feed(spaced(1199, "-"));
        CHECK.due("a - at 1199", x.read(), -11);
        CHECK.due("place()", x.place(), 1199);
        x = new Desk();
        x.feed(spaced(1199, "5"));
        CHECK.due("a figure at 1199", x.read(), -12);
        CHECK.due("place()", x.place(), 1199);
        x = new Desk();
        x.feed(spaced(1200, ""));
        CHECK.due("bytes 32 and 10 alone", x.read(), 0);
        x = new Desk();
        x.feed(spaced(0, "a".repeat(1200)));
        CHECK.due("1200 letters", x.read(), -11);
        CHECK.due("place()", x.place(), 0);
        x = new Desk();
        x.feed(spaced(8, "joint a " + "1".repeat(1184)));
        CHECK.due("1184 figures", x.read(), -11);
        CHECK.due("place()", x.place(), 16);
        x = new Desk();
        x.feed(";".repeat(1200));
        CHECK.due("1200 SIGNS", x.read(), -12);
        CHECK.due("place()", x.place(), 0);
    }

    private static void tapeIsEmptyThen() {
        CHECK.on("3: 'THE TAPE, empty then'");
        Desk x = new Desk();
        x.feed("joint a 0 0;joint a 0 0;");
        CHECK.due("read() with a FAULT", x.read(), -13);
        CHECK.due("count(8)", x.count(8), 0);
        CHECK.due("nothing is left to read", x.read(), 0);
        x.feed("joint b 1 2;");
        CHECK.due("read() without one", x.read(), 1);
        CHECK.due("count(8)", x.count(8), 0);
        for (int i = 1; i <= 150; i++) {
            CHECK.due("all 1200 bytes come again", x.feed(8, SPACES), 8 * i);
        }
        CHECK.due("and no more", x.feed(1, SPACES), FULL);
        CHECK.due("what was on it is not read on", x.read(), 0);
        x.feed("joint");
        CHECK.due("a shorter text ends earlier", x.read(), -12);
        CHECK.due("place()", x.place(), 5);
        CHECK.on("3: 'THE TAPE .. is read': an empty one, which is a LINKAGE of nothing");
        x = Desk.of("joint a 0 0;");
        CHECK.due("read()", x.read(), 0);
        CHECK.due("PARTS", x.count(5), 0);
        CHECK.due("place()", x.place(), NONE);
    }

    private static void readWithoutFault() {
        CHECK.on("3: 'without a FAULT it is the LINKAGE from now on'");
        Desk x = Rich.turned();
        long rows = Desk.of("").digest();
        x.read();
        CHECK.due("PARTS of joint q 5 5;", x.count(5), 1);
        CHECK.due("x", x.part(0, 2), 5);
        CHECK.due("BARS", x.count(2), 0);
        CHECK.due("WHEELS", x.count(3), 0);
        CHECK.due("COUPLINGS", x.count(4), 0);
        CHECK.due("TIES", x.count(6), 0);
        CHECK.due("CLUSTERS", x.count(7), 0);
        CHECK.due("the DRIVEN one", x.count(10), NONE);
        CHECK.due("about which", x.count(11), NONE);
        CHECK.due("mobility()", x.mobility(), 0);
        CHECK.due("MOTIONS", x.rank(1), 2);
        CHECK.due("order(0, 0)", x.order(0, 0), STATE);
        CHECK.due("lock()", x.lock(), NONE);
        CHECK.due("place()", x.place(), NONE);
        CHECK.on("3: ROWS, THE TRACE and status() are no part of the LINKAGE");
        CHECK.due("status()", x.status(), 3);
        CHECK.due("trail(0)", x.trail(0), 32);
        CHECK.due("ROWS", x.count(9), 5);
        CHECK.due("an ITEM", x.get(3, 0), 0x7766554433221100L * 4);
        CHECK.holds("digest() has them", x.digest() != rows);
        CHECK.on("3: '(no pose(), no CURVE, no flips)', though the text is the same one");
        Desk y = Rich.turned();
        y.read();
        CHECK.due("read()", y.read(Rich.DRIVEN), Rich.PARTS);
        CHECK.due("at(0, 0)", y.at(0, 0), STATE);
        CHECK.due("why(0)", y.why(0), STATE);
        CHECK.due("curve(0, 0)", y.curve(0, 0), STATE);
        CHECK.due("told(0)", y.told(0), STATE);
        CHECK.due("keep(0, 0)", y.keep(0, 0), STATE);
        CHECK.due("d is at its told SIDE again", y.flip(3), Desk.of(Rich.DRIVEN).flip(3));
    }

    /** What can be seen of the LINKAGE alone: not what is of ROWS. */
    private static List<String> linkageOf(Desk x) {
        List<String> lines = View.of(x);
        lines.removeIf(line -> line.startsWith("place =") || line.startsWith("trail"));
        return lines;
    }

    private static void readBehindOthers() {
        CHECK.on("3: 'it is the LINKAGE from now on': nothing is left of those ahead");
        String[] texts = {Rich.DRIVEN, Rich.UNDRIVEN, "", "joint q 5 5;", "ground a 0 0;joint b 3 0;joint c 3 3;bar a b;bar c b;",
            "joint d 7 0;joint e 9 9;ground g 0 0;ground h 1 9;ground k 5 5;bar d g;bar e g;bar e d;wheel u at d 9;wheel v at e 8;"
            + "mesh u v;belt u v;drive d about g;"};
        for (String ahead : texts) {
            for (String text : texts) {
                Desk x = new Desk();
                x.read(Rich.DRIVEN);
                x.pose(3);
                x.trace(3);
                x.read(ahead);
                x.read(ahead);
                x.pose(3);
                x.trace(3);
                x.lock();
                x.read(text);
                CHECK.same("behind others, of '" + text + "'", linkageOf(Desk.of(text)), linkageOf(x));
                CHECK.due("pose()", x.pose(9), Desk.of(text).pose(9));
            }
        }
    }

    private static void readWithFault() {
        CHECK.on("3: 'else -10 less the FAULT'");
        StringBuilder many = new StringBuilder();
        for (char name = 'a'; name <= 'y'; name++) {
            many.append("joint ").append(name).append(" 0 0;");
        }
        String[] texts = {"!", ";", "joint a 0 0;joint a 0 0;", "bar a b;", "joint a 1001 0;", many.toString(),
            "joint a 0 0;bar a a;", "joint a 0 0;drive a about a;"};
        for (int fault = 1; fault <= 8; fault++) {
            CHECK.due("FAULT " + fault, new Desk().read(texts[fault - 1]), -10 - fault);
        }
        CHECK.on("3: 'and the LINKAGE stays': with pose(), CURVE and flips");
        for (String text : new String[] {"!", "joint c 1 1", "ground a 0 0;joint b 3 0;bar a b;drive b about a;wheel u at z 3;"}) {
            // THE TAPE is empty then, and the latest FAULT at the same place, on both of them.
            Desk one = Rich.turned();
            one.read("!");
            one.read("!");
            Desk other = Rich.turned();
            other.read("!");
            CHECK.holds("a FAULT of " + text, other.read(text) < -10);
            other.read("!");
            CHECK.same("behind the FAULTS", View.of(one), View.of(other));
            CHECK.due("status()", other.status(), 3);
        }
    }

    private static void place() {
        CHECK.on("4: 'NONE': no read() yet, or one without a FAULT");
        CHECK.due("a new object", new Desk().place(), NONE);
        Desk x = new Desk();
        x.read();
        CHECK.due("an empty TAPE", x.place(), NONE);
        CHECK.on("4: 'The place of the latest read()'s FAULT'");
        x.read("!");
        CHECK.due("the first byte", x.place(), 0);
        x.read("joint a 0 0;  !");
        CHECK.due("a later one", x.place(), 14);
        CHECK.due("it stays", x.place(), 14);
        x.feed(3, SPACES);
        CHECK.due("feed() leaves it", x.place(), 14);
        x.read();
        CHECK.due("a read() without a FAULT", x.place(), NONE);
        CHECK.due("a text that ends too early", x.read("joint a 0 0"), -12);
        CHECK.due("its length", x.place(), 11);
        x.read("joint a 0 0;");
        CHECK.due("a read() without a FAULT", x.place(), NONE);
    }

    private static void part() {
        CHECK.on("5: 'Of a PART': each KIND, the last PART, too");
        Desk x = Desk.of("joint a -1000 1000;ground b 1000 -1000;bar b a;wheel u at b 3;wheel v at a 200;mesh v u;belt v u;shaft u v;");
        int[][] due = {{0, 0, -1000, 1000}, {1, 1, 1000, -1000}, {2, 0, 1, 0}, {3, 0, 1, 3}, {3, 1, 0, 200}, {4, 0, 1, 0},
            {5, 1, 1, 0}, {6, 2, 0, 1}};
        for (int part = 0; part < due.length; part++) {
            for (int what = 0; what < 4; what++) {
                CHECK.due("part(" + part + ", " + what + ")", x.part(part, what), due[part][what]);
            }
        }
        CHECK.on("1 TEXTS: 'BARS of a chain, a frame in order, that from the last to the first at the end'");
        x = Desk.of("joint a 0 0;joint b 9 0;joint c 9 9;joint d 0 8;frame c a d b;joint e 5 5;chain e d c;");
        int[][] bars = {{2, 0}, {0, 3}, {3, 1}, {1, 2}};
        for (int i = 0; i < 4; i++) {
            CHECK.due("BAR " + i, x.part(4 + i, 1), i);
            CHECK.due("from", x.part(4 + i, 2), bars[i][0]);
            CHECK.due("to", x.part(4 + i, 3), bars[i][1]);
        }
        CHECK.due("the JOINT behind", x.part(8, 1), 4);
        CHECK.due("BAR 4: from", x.part(9, 2), 4);
        CHECK.due("BAR 5: to", x.part(10, 3), 2);
    }

    private static void partBad() {
        CHECK.on("5: 'BAD'");
        Desk x = Rich.turned();
        for (int n : FAR) {
            CHECK.refused("part(" + n + ", 0)", x, y -> y.part(n, 0), BAD);
            CHECK.refused("part(0, " + n + ")", x, y -> y.part(0, n), BAD);
        }
        for (int what = 0; what < 4; what++) {
            int which = what;
            CHECK.holds("the last PART, " + what, x.again().part(Rich.PARTS - 1, what) >= 0);
            CHECK.refused("one more, " + what, x, y -> y.part(Rich.PARTS, which), BAD);
        }
        CHECK.refused("part(0, 4)", x, y -> y.part(0, 4), BAD);
    }
}
