/** Promises 23 to 26: ask, trail, is, as. */
public final class PartsTest {
    private static final int NONE = LinkageCurves.NONE, BAD = LinkageCurves.BAD, NOUGHT = -1000015;
    private static final String ALL = "joint p -3 0;ground g 6 13;bar p g;wheel u at p 12;wheel v at g 9;mesh u v;belt u v;"
        + "shaft u v;";
    private static final int PIN = 0, GROUND = 1, BAR = 2, WHEEL = 3, MESH = 5, BELT = 6, SHAFT = 7;
    private static final Check CHECK = new Check();

    public static void main(String[] args) {
        freedom();
        mass();
        loss();
        traces();
        kinds();
        bad();
        CHECK.end();
    }

    private static void ask(int part, int what, long answer, int... trace) {
        Desk x = Desk.of(ALL);
        String call = "ask " + part + " " + what;
        x.get(0, 0);
        CHECK.due(call, x.ask(part, what), answer);
        CHECK.due(call + ": status", x.status(), answer == NOUGHT ? 5 : 0);
        for (int i = 0; i < trace.length; i++) {
            CHECK.due(call + ": trail " + i, x.trail(i), trace[i]);
        }
        CHECK.due(call + ": the trail's end", x.trail(trace.length), NONE);
    }

    private static void freedom() {
        ask(PIN, 0, 2, 11);
        ask(GROUND, 0, 0, 12, 11);
        ask(BAR, 0, -1, 13, 10);
        ask(WHEEL, 0, 1, 14);
        ask(MESH, 0, -1, 15, 10);
        ask(BELT, 0, -1, 15, 10);
        ask(SHAFT, 0, -1, 15, 10);
    }

    private static void mass() {
        ask(PIN, 1, 1, 20);
        ask(GROUND, 1, 1, 20);
        // 9 and 13: 250, whose root is 15.8
        ask(BAR, 1, 15, 21);
        ask(WHEEL, 1, 12, 22);
        ask(MESH, 1, 1, 20);
        ask(BELT, 1, 6, 23, 20);
        ask(SHAFT, 1, 6, 23, 20);
        int[][] bars = {{1, 0, 1}, {1, 1, 1}, {3, 4, 5}, {4, 4, 5}, {1000, 1000, 1414}, {6, 8, 10}, {7, 7, 9}};
        for (int[] bar : bars) {
            Desk x = Desk.of("joint a 0 0;joint b " + bar[0] + " " + -bar[1] + ";bar b a;");
            CHECK.due("mass of " + bar[0] + " " + bar[1], x.ask(2, 1), bar[2]);
        }
        Desk x = Desk.of("joint a -1000 -1000;joint b 1000 1000;bar b a;");
        CHECK.due("mass of the longest", x.ask(2, 1), 2828);
    }

    private static void loss() {
        ask(PIN, 2, 500, 30, 11);
        ask(GROUND, 2, NOUGHT, 31, 20, 30, 12, 11);
        ask(BAR, 2, -1000, 30, 13, 10);
        ask(WHEEL, 2, 1000, 30, 14);
        ask(MESH, 2, -1000, 30, 15, 10);
        ask(BELT, 2, -1000, 30, 15, 10);
        ask(SHAFT, 2, 18, 32, 23, 20);
    }

    private static void traces() {
        Desk x = Desk.of(ALL);
        CHECK.due("no trail yet", x.trail(0), NONE);
        x.ask(SHAFT, 2);
        CHECK.due("a BAD ask", x.ask(SHAFT, 3), BAD);
        CHECK.due("leaves the trail", x.trail(0), 32);
        CHECK.due("a BAD ask", x.ask(8, 0), BAD);
        CHECK.due("leaves the trail", x.trail(2), 20);
        x.ask(WHEEL, 0);
        CHECK.due("a new trail", x.trail(0), 14);
        CHECK.due("it is empty ahead", x.trail(1), NONE);
        CHECK.due("trail -1", x.trail(-1), NONE);
        CHECK.due("trail least", x.trail(Integer.MIN_VALUE), NONE);
        CHECK.due("trail greatest", x.trail(Integer.MAX_VALUE), NONE);
        CHECK.due("trail 16", x.trail(16), NONE);
        x.ask(GROUND, 2);
        CHECK.due("status of NOUGHT", x.status(), 5);
        x.ask(0, 9);
        CHECK.due("BAD leaves the status", x.status(), 5);
    }

    private static void kinds() {
        int[] parts = {PIN, GROUND, BAR, WHEEL, MESH, BELT, SHAFT};
        int[] numbers = {0, 1, 0, 0, 0, 1, 2};
        String[] due = {"1000000", "1100000", "0010000", "0001000", "0000100", "0000110", "0000111"};
        Desk x = Desk.of(ALL);
        for (int i = 0; i < parts.length; i++) {
            for (int kind = 0; kind < 7; kind++) {
                boolean is = due[i].charAt(kind) == '1';
                x.lay(0, 0, is ? -1 : 1);
                CHECK.due("is " + i + " " + kind, x.is(parts[i], kind), is ? 1 : 0);
                CHECK.due("is leaves the status", x.status(), is ? 4 : 0);
                CHECK.due("as " + i + " " + kind, x.as(parts[i], kind), is ? numbers[i] : -1000013);
                CHECK.due("status of as " + i + " " + kind, x.status(), is ? 0 : 3);
            }
        }
    }

    private static void bad() {
        Desk x = Desk.of(ALL);
        x.get(0, 0);
        for (int n : new int[] {-1, 8, Integer.MIN_VALUE, Integer.MAX_VALUE}) {
            CHECK.due("ask " + n, x.ask(n, 0), BAD);
            CHECK.due("ask 0 " + n, x.ask(0, n), BAD);
            CHECK.due("is " + n, x.is(n, 0), BAD);
            CHECK.due("is 0 " + n, x.is(0, n), BAD);
            CHECK.due("as " + n, x.as(n, 0), BAD);
            CHECK.due("as 0 " + n, x.as(0, n), BAD);
        }
        CHECK.due("is 0 7", x.is(0, 7), BAD);
        CHECK.due("as 0 7", x.as(0, 7), BAD);
        CHECK.due("ask 0 3", x.ask(0, 3), BAD);
        CHECK.due("the status stays", x.status(), 1);
        CHECK.due("ask of nothing", new Desk().ask(0, 0), BAD);
    }
}
