/** The edges that '3 AT THE TOLD PLACES' and promises 10 and 11 name. */
public final class MatrixEdgesTest {
    private static final int BAD = LinkageCurves.BAD;
    private static final int P = 1000003;
    private static final int[] FAR = {-1, Integer.MIN_VALUE, Integer.MAX_VALUE};
    private static final Check CHECK = new Check();

    public static void main(String[] args) {
        noRowsNoColumns();
        most();
        rankModulo();
        numbersModulo();
        leads();
        rankBad();
        motions();
        ground();
        motionBad();
        CHECK.end();
    }

    private static void ranks(String what, String text, int rank, int motions, int stresses) {
        Desk x = Desk.of(text);
        CHECK.due(what + ": RANK", x.rank(0), rank);
        CHECK.due(what + ": MOTIONS", x.rank(1), motions);
        CHECK.due(what + ": STRESSES", x.rank(2), stresses);
    }

    private static void noRowsNoColumns() {
        CHECK.on("'THE MATRIX has a row for each BAR': no BARS");
        ranks("nothing", "", 0, 0, 0);
        ranks("one JOINT", "joint a 3 4;", 0, 2, 0);
        Desk x = Desk.of("joint a 3 4;joint b 5 6;");
        for (int i = 0; i < 16; i++) {
            CHECK.due("each column is FREE: " + i, x.motion(i / 4, i / 2 % 2, i % 2), i / 4 == i % 4 ? 1 : 0);
        }
        CHECK.on("'and columns x, y for each JOINT that is not GROUND': no such JOINT");
        ranks("GROUND", "ground a 0 0;ground b 1 0;ground c 0 1;", 0, 0, 0);
        ranks("GROUND with BARS", "ground a 0 0;ground b 1 0;ground c 0 1;frame a b c;", 0, 0, 3);
        CHECK.on("'columns .. for each JOINT that is not GROUND': a BAR of two GROUND ones is a row of 0");
        ranks("a BAR of GROUND, and one more", "ground a 0 0;ground b 1 0;joint c 0 1;bar a b;bar a c;", 1, 1, 1);
    }

    private static void most() {
        CHECK.on("THE MATRIX with 60 rows and 48 columns");
        StringBuilder text = new StringBuilder();
        for (int i = 0; i < 24; i++) {
            text.append("joint ").append((char) ('a' + i)).append(' ').append(i * 389 % 2001 - 1000).append(' ')
                .append(i * i * 71 % 2001 - 1000).append(';');
        }
        text.append("chain a");
        int joint = 0;
        for (int i = 0; i < 60; i++) {
            joint = (joint + (i < 24 ? 1 : i < 48 ? 5 : 7)) % 24;
            text.append(' ').append((char) ('a' + joint));
        }
        text.append(';');
        ranks("60 BARS", text.toString(), 45, 3, 15);
        Model model = new Model();
        for (char c : text.toString().toCharArray()) {
            model.feed(1, c);
        }
        model.read();
        Desk x = Desk.of(text.toString());
        for (int i = 0; i < 3 * 48; i++) {
            CHECK.due("motion " + i, x.motion(i / 48, i / 2 % 24, i % 2), model.motion(i / 48, i / 2 % 24, i % 2));
        }
    }

    private static void rankModulo() {
        CHECK.on("'RANK is its rank modulo P'");
        // b less p is 1000, -3, b less q is 1, 1000: 1000 1000 and 3 are P, so the rows are alike modulo P.
        String alike = "ground p -1000 3;joint b 0 0;ground q -1 -1000;bar b p;bar b q;";
        ranks("1000003", alike, 1, 1, 1);
        ranks("1000002", "ground p -1000 2;joint b 0 0;ground q -1 -1000;bar b p;bar b q;", 2, 0, 0);
        ranks("1000004", "ground p -1000 4;joint b 0 0;ground q -1 -1000;bar b p;bar b q;", 2, 0, 0);
        Desk x = Desk.of(alike);
        long across = x.motion(0, 1, 0);
        CHECK.due("1000003: the FREE column", x.motion(0, 1, 1), 1);
        CHECK.due("1000003: along the first BAR", (1000 * across - 3) % P, 0);
        CHECK.due("1000003: along the second BAR", (across + 1000) % P, 0);
        CHECK.due("both BARS are NEEDED all the same", x.needed(1), 1);
    }

    private static void numbersModulo() {
        CHECK.on("'modulo P = 1000003 (numbers 0 .. P - 1)'");
        Desk x = Desk.of("joint a 0 0;joint b 1 1;bar a b;");
        int[][] due = {{P - 1, 1, 0, 0}, {1, 0, 1, 0}, {1, 0, 0, 1}};
        for (int i = 0; i < 12; i++) {
            CHECK.due("motion(" + i / 4 + ", " + i / 2 % 2 + ", " + i % 2 + ")", x.motion(i / 4, i / 2 % 2, i % 2), due[i / 4][i % 4]);
        }
        CHECK.on("'modulo P': places as far apart as may be");
        x = Desk.of("joint a -1000 1000;joint b 1000 -1000;bar a b;");
        int[][] far = {{1, 1, 0, 0}, {1, 0, 1, 0}, {P - 1, 0, 0, 1}};
        for (int i = 0; i < 12; i++) {
            CHECK.due("far: motion(" + i / 4 + ", " + i / 2 % 2 + ", " + i % 2 + ")", x.motion(i / 4, i / 2 % 2, i % 2), far[i / 4][i % 4]);
        }
        // -1999 / 2000: its inverse modulo P times 2000 comes to -1999 again.
        x = Desk.of("joint a -1000 -999;ground g 1000 1000;bar a g;");
        CHECK.due("2000 times it", 2000L * x.motion(0, 0, 0) % P, P - 1999);
    }

    private static void leads() {
        CHECK.on("'the first number of a row that is not 0 leads': in a y column, too");
        Desk x = Desk.of("joint a 0 0;joint b 0 7;bar a b;");
        int[][] due = {{1, 0, 0, 0}, {0, 0, 1, 0}, {0, 1, 0, 1}};
        for (int i = 0; i < 12; i++) {
            CHECK.due("upright: motion(" + i / 4 + ", " + i / 2 % 2 + ", " + i % 2 + ")", x.motion(i / 4, i / 2 % 2, i % 2), due[i / 4][i % 4]);
        }
        CHECK.on("'further right than that of the row above': BARS told the other way round");
        x = Desk.of("ground g 0 0;joint a 5 0;joint b 0 9;bar b g;bar a g;");
        CHECK.due("RANK", x.rank(0), 2);
        CHECK.due("MOTION 0: y of a", x.motion(0, 1, 1), 1);
        CHECK.due("MOTION 1: x of b", x.motion(1, 2, 0), 1);
    }

    private static void rankBad() {
        CHECK.on("10: '0 RANK, 1 MOTIONS, 2 STRESSES. BAD'");
        Desk x = Rich.turned();
        int[] due = {6, 2, 1};
        for (int what = 0; what < 3; what++) {
            CHECK.due("rank(" + what + ")", x.again().rank(what), due[what]);
        }
        CHECK.refused("rank(3)", x, y -> y.rank(3), BAD);
        for (int n : FAR) {
            CHECK.refused("rank(" + n + ")", x, y -> y.rank(n), BAD);
        }
        CHECK.due("rank(3) of nothing", new Desk().rank(3), BAD);
    }

    private static void motions() {
        CHECK.on("'MOTION k (from 0 on)': as many as MOTIONS");
        Desk x = Desk.of("joint a 0 0;joint b 5 0;bar a b;");
        CHECK.due("MOTIONS", x.rank(1), 3);
        CHECK.due("the first one", x.motion(0, 0, 1), 1);
        CHECK.due("the last one", x.motion(2, 1, 1), 1);
        CHECK.due("one more", x.motion(3, 0, 0), BAD);
        Desk firm = Desk.of("ground g 0 0;ground h 9 0;joint a 4 4;chain g a h;");
        CHECK.due("none: MOTIONS", firm.rank(1), 0);
        CHECK.due("none: motion(0, 2, 0)", firm.motion(0, 2, 0), BAD);
        CHECK.due("none: motion(0, 0, 0) of GROUND", firm.motion(0, 0, 0), BAD);
    }

    private static void ground() {
        CHECK.on("'of GROUND it is 0'");
        Desk x = Desk.of("joint a 3 4;ground g 0 0;joint b 7 7;ground h 1 1;bar a g;");
        for (int k = 0; k < 3; k++) {
            for (int axis = 0; axis < 2; axis++) {
                CHECK.due("g", x.motion(k, 1, axis), 0);
                CHECK.due("h", x.motion(k, 3, axis), 0);
            }
        }
        CHECK.due("beside it", x.motion(1, 2, 0), 1);
    }

    private static void motionBad() {
        CHECK.on("11: 'BAD'");
        Desk x = Rich.turned();
        int motions = x.again().rank(1);
        CHECK.holds("the last MOTION, JOINT and axis", x.again().motion(motions - 1, Rich.JOINTS - 1, 1) >= 0);
        CHECK.refused("k: one more", x, y -> y.motion(motions, 2, 0), BAD);
        CHECK.refused("JOINT: one more", x, y -> y.motion(0, Rich.JOINTS, 0), BAD);
        CHECK.refused("axis 2", x, y -> y.motion(0, 2, 2), BAD);
        CHECK.refused("axis 2 of GROUND", x, y -> y.motion(0, 0, 2), BAD);
        for (int n : FAR) {
            CHECK.refused("motion(" + n + ", 2, 0)", x, y -> y.motion(n, 2, 0), BAD);
            CHECK.refused("motion(0, " + n + ", 0)", x, y -> y.motion(0, n, 0), BAD);
            CHECK.refused("motion(0, 2, " + n + ")", x, y -> y.motion(0, 2, n), BAD);
            CHECK.refused("motion(" + n + ", 0, 0) of GROUND", x, y -> y.motion(n, 0, 0), BAD);
        }
    }
}
