/** The edges that '6 PARTS' and promises 23 to 26 name. */
public final class PartsEdgesTest {
    private static final int NONE = LinkageCurves.NONE, BAD = LinkageCurves.BAD, KIND = -1000013, NOUGHT = -1000015;
    private static final int[] FAR = {-1, Integer.MIN_VALUE, Integer.MAX_VALUE};
    /** One of each KIND, in order of KINDS. */
    private static final int[] PARTS = {Rich.PIN, Rich.GROUND, Rich.BAR, Rich.WHEEL, Rich.MESH, Rich.BELT, Rich.SHAFT};
    private static final String[] IS = {"1000000", "1100000", "0010000", "0001000", "0000100", "0000110", "0000111"};
    private static final Check CHECK = new Check();

    public static void main(String[] args) {
        bodies();
        nearestKind();
        rootDown();
        nought();
        traceEmptyAhead();
        askBad();
        trail();
        is();
        as();
        asKind();
        CHECK.end();
    }

    /** An ASK of the PART of a KIND on a desk with another TRACE and another status(). */
    private static void ask(int kind, int what, long due, int... trace) {
        Desk x = Rich.turned();
        String call = "ask " + what + " of KIND " + kind;
        CHECK.due(call, x.ask(PARTS[kind], what), due);
        CHECK.due(call + ": status()", x.status(), due == NOUGHT ? 5 : 0);
        for (int i = 0; i < 17; i++) {
            CHECK.due(call + ": trail(" + i + ")", x.trail(i), i < trace.length ? trace[i] : NONE);
        }
    }

    private static void bodies() {
        CHECK.on("'0 FREEDOM'");
        ask(0, 0, 2, 11);
        ask(1, 0, 0, 12, 11);
        ask(2, 0, -1, 13, 10);
        ask(3, 0, 1, 14);
        ask(4, 0, -1, 15, 10);
        CHECK.on("'1 MASS'");
        ask(2, 1, 10, 21);
        ask(3, 1, 12, 22);
        ask(5, 1, 6, 23, 20);
        CHECK.on("'2 LOSS'");
        ask(0, 2, 500, 30, 11);
        ask(2, 2, -1000, 30, 13, 10);
        ask(3, 2, 1000, 30, 14);
        ask(6, 2, 18, 32, 23, 20);
    }

    private static void nearestKind() {
        CHECK.on("'else that of the nearest KIND that it is, too'");
        ask(5, 0, -1, 15, 10);
        ask(6, 0, -1, 15, 10);
        ask(6, 1, 6, 23, 20);
        CHECK.on("'else the one that is lent'");
        ask(0, 1, 1, 20);
        ask(1, 1, 1, 20);
        ask(4, 1, 1, 20);
        ask(4, 2, -1000, 30, 15, 10);
        ask(5, 2, -1000, 30, 15, 10);
    }

    private static void rootDown() {
        CHECK.on("'the root, DOWN, of the square of its told length'");
        // Of squares, of such less 1 (2 2, 8 4, 1936 1912), and of the longest BAR.
        int[][] due = {{1, 0, 1}, {0, 1, 1}, {1, 1, 1}, {2, 0, 2}, {2, 1, 2}, {2, 2, 2}, {3, 0, 3}, {3, 4, 5}, {8, 4, 8}, {12, 12, 16},
            {1936, 1912, 2720}, {1995, 1900, 2755}, {2000, 0, 2000}, {2000, 1, 2000}, {2000, 2000, 2828}};
        for (int[] d : due) {
            String far = (d[0] - 1000) + " " + (1000 - d[1]);
            Desk x = Desk.of("joint a -1000 1000;joint b " + far + ";bar a b;");
            CHECK.due("MASS of " + d[0] + " " + d[1], x.ask(2, 1), d[2]);
        }
    }

    private static void nought() {
        CHECK.on("'1000 by FREEDOM, CUT (NOUGHT)', 23: 'NOUGHT'");
        ask(1, 2, NOUGHT, 31, 20, 30, 12, 11);
        CHECK.on("23: what an ASK by 0 leaves: all but THE TRACE and status()");
        Desk x = Rich.turned();
        x.ask(Rich.WHEEL, 0);
        Desk y = x.again();
        y.ask(Rich.GROUND, 2);
        x.ask(Rich.GROUND, 0);
        y.ask(Rich.GROUND, 0);
        CHECK.same("behind NOUGHT and an ASK", View.of(x), View.of(y));
        CHECK.due("status() behind the next ASK", y.status(), 0);
    }

    private static void traceEmptyAhead() {
        CHECK.on("23: 'THE TRACE is empty ahead of it, if it is not BAD'");
        Desk x = Rich.turned();
        CHECK.due("one of three BODIES", x.trail(2), 20);
        x.ask(Rich.GROUND, 2);
        CHECK.due("one of five: the first", x.trail(0), 31);
        CHECK.due("one of five: the last", x.trail(4), 11);
        x.ask(Rich.WHEEL, 3);
        CHECK.due("a BAD one leaves it: the first", x.trail(0), 31);
        CHECK.due("a BAD one leaves it: the last", x.trail(4), 11);
        x.ask(Rich.WHEEL, 0);
        CHECK.due("one of one: the first", x.trail(0), 14);
        CHECK.due("one of one: no more", x.trail(1), NONE);
    }

    private static void askBad() {
        CHECK.on("23: 'An ASK (0 .. 2) of a PART. BAD'");
        Desk x = Rich.turned();
        CHECK.due("the last PART", x.again().ask(Rich.PARTS - 1, 1), 6);
        for (int what = 0; what < 3; what++) {
            int which = what;
            CHECK.refused("one PART more, " + what, x, y -> y.ask(Rich.PARTS, which), BAD);
        }
        CHECK.refused("ASK 3", x, y -> y.ask(Rich.PIN, 3), BAD);
        for (int n : FAR) {
            CHECK.refused("ask(" + n + ", 0)", x, y -> y.ask(n, 0), BAD);
            CHECK.refused("ask(3, " + n + ")", x, y -> y.ask(Rich.PIN, n), BAD);
        }
    }

    private static void trail() {
        CHECK.on("24: 'NONE': none yet, below 0, behind the last one");
        CHECK.due("a new object", new Desk().trail(0), NONE);
        Desk x = Rich.turned();
        CHECK.due("the first", x.trail(0), 32);
        CHECK.due("the last", x.trail(2), 20);
        for (int i : new int[] {3, 15, 16, 17, -1, Integer.MIN_VALUE, Integer.MAX_VALUE}) {
            CHECK.refused("trail(" + i + ")", x, y -> y.trail(i), NONE);
        }
    }

    private static void is() {
        CHECK.on("'1 GROUND (a PIN, too) .. 5 BELT (a MESH, too), 6 SHAFT (a BELT, so a MESH, too)', 25: '1, 0'");
        Desk x = Rich.turned();
        for (int i = 0; i < 7; i++) {
            for (int kind = 0; kind < 7; kind++) {
                CHECK.due("is of KIND " + i + ", " + kind, x.is(PARTS[i], kind), IS[i].charAt(kind) - '0');
            }
        }
        CHECK.due("status() stays", x.status(), 3);
        CHECK.on("25: 'of a KIND (0 .. 6) .. BAD'");
        CHECK.refused("KIND 7", x, y -> y.is(Rich.SHAFT, 7), BAD);
        CHECK.refused("one PART more", x, y -> y.is(Rich.PARTS, 0), BAD);
        for (int n : FAR) {
            CHECK.refused("is(" + n + ", 0)", x, y -> y.is(n, 0), BAD);
            CHECK.refused("is(0, " + n + ")", x, y -> y.is(0, n), BAD);
        }
    }

    private static void as() {
        CHECK.on("26: 'its number (as part() tells it with 1)'");
        for (int i = 0; i < 7; i++) {
            for (int kind = 0; kind < 7; kind++) {
                if (IS[i].charAt(kind) == '1') {
                    Desk x = Rich.turned();
                    CHECK.due("as of KIND " + i + ", " + kind, x.as(PARTS[i], kind), x.part(PARTS[i], 1));
                    CHECK.due("status()", x.status(), 0);
                }
            }
        }
        CHECK.due("the last PART", Rich.turned().as(Rich.PARTS - 1, 4), 2);
        CHECK.on("26: 'BAD'");
        Desk x = Rich.turned();
        CHECK.refused("KIND 7", x, y -> y.as(Rich.SHAFT, 7), BAD);
        CHECK.refused("one PART more", x, y -> y.as(Rich.PARTS, 0), BAD);
        for (int n : FAR) {
            CHECK.refused("as(" + n + ", 0)", x, y -> y.as(n, 0), BAD);
            CHECK.refused("as(0, " + n + ")", x, y -> y.as(0, n), BAD);
        }
    }

    private static void asKind() {
        CHECK.on("26: 'KIND: it is not that'");
        Desk x = Rich.turned();
        x.lay(6, 0, 1);
        for (int i = 0; i < 7; i++) {
            int part = PARTS[i];
            for (int k = 0; k < 7; k++) {
                int kind = k;
                if (IS[i].charAt(k) == '0') {
                    CHECK.refused("as of KIND " + i + ", " + k, x, y -> y.as(part, kind), KIND);
                }
            }
        }
    }
}
