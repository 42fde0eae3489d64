import java.util.ArrayList;
import java.util.Collections;
import java.util.List;
import java.util.Random;

/** Random runs of calls, each answer held against the Model's; the seeds are fixed. */
public final class RunsTest {
    private static final int RUNS = 1500;
    private static final String[] WORDS = {"ground", "joint", "bar", "chain", "frame", "wheel", "at", "mesh", "belt",
        "shaft", "drive", "about"};
    private final Random random;
    private final Desk x = new Desk();
    private final Model model = new Model();
    private String text = "";
    private int fed;
    private int spread;
    private int wrong;

    private RunsTest(long seed) {
        random = new Random(seed);
    }

    public static void main(String[] args) {
        Check all = new Check();
        for (int seed = 1; seed <= RUNS; seed++) {
            RunsTest run = new RunsTest(seed);
            all.due("run " + seed + ": wrong answers", run.go(), 0);
        }
        all.end();
    }

    private int go() {
        // No turn of this loop makes more than three calls.
        for (int i = 0; x.callsLeft() >= 3; i++) {
            if (fed < text.length()) {
                int n = Math.min(random.nextInt(9) == 0 ? 1 + random.nextInt(8) : 8, text.length() - fed);
                long bytes = Desk.packed(text.substring(fed, fed + n));
                fed += n;
                due("feed " + n, x.feed(n, bytes), model.feed(n, bytes));
                if (fed == text.length()) {
                    due("read of " + text, x.read(), model.read());
                    due("place in " + text, x.place(), model.place());
                }
            } else if (i == 0 || random.nextInt(120) == 0) {
                text = random.nextInt(12) == 0 ? soup() : linkage();
                fed = 0;
            } else {
                call();
            }
        }
        return wrong;
    }

    private void due(String call, long got, long want) {
        if (got != want) {
            wrong++;
            System.out.println(call + " answered " + got + ", the model says " + want);
        }
    }

    // ---- texts

    private String soup() {
        StringBuilder b = new StringBuilder();
        for (int i = random.nextInt(20); i >= 0; i--) {
            String[] more = {";", "a", "b", "ab", "5", "-3", "12345", "-", "abcdefg", "abcdef", "\n", " ", "A", "\u00e9",
                "1000", "1001", "-1000", "0007", "--1", "a1", "1a"};
            b.append(random.nextBoolean() ? WORDS[random.nextInt(12)] : more[random.nextInt(more.length)]);
            b.append(random.nextInt(6) == 0 ? "" : " ");
        }
        return b.toString();
    }

    private static String name(int i) {
        return i < 20 ? "" + (char) ('b' + i) : "z" + (char) ('a' + i - 20);
    }

    private static String wheelName(int i) {
        return "w" + (char) ('a' + i);
    }

    private int coordinate() {
        return random.nextInt(2 * spread + 1) - spread;
    }

    private String linkage() {
        StringBuilder b = new StringBuilder();
        spread = new int[] {3, 12, 60, 1000}[random.nextInt(4)];
        int joints = random.nextInt(5) == 0 ? 24 : 2 + random.nextInt(12);
        int grounds = random.nextInt(4) + (random.nextInt(4) == 0 ? 0 : 1);
        boolean[][] bars = new boolean[24][24];
        int[] xs = new int[24];
        int[] ys = new int[24];
        for (int i = 0; i < joints; i++) {
            xs[i] = coordinate();
            ys[i] = coordinate();
            b.append(i < grounds || i > grounds && random.nextInt(12) == 0 ? "ground " : "joint ").append(name(i))
                .append(" ").append(xs[i]).append(" ").append(ys[i]).append(";");
        }
        List<String> told = new ArrayList<>();
        boolean loose = random.nextInt(3) == 0;
        for (int i = 1; i < joints; i++) {
            for (int k = loose ? random.nextInt(3) : Math.min(i, 2); k > 0; k--) {
                int other = random.nextInt(3) == 0 ? random.nextInt(i) : Math.max(0, i - 1 - random.nextInt(3));
                boolean isOnePlace = xs[i] == xs[other] && ys[i] == ys[other];
                if (!bars[i][other] && (!isOnePlace || random.nextInt(50) == 0)) {
                    bars[i][other] = true;
                    told.add((random.nextBoolean() ? "bar " : "chain ") + name(i) + " " + name(other)
                        + (random.nextInt(6) == 0 ? "\n;" : ";"));
                }
            }
        }
        if (random.nextBoolean()) {
            Collections.shuffle(told, random);
        }
        b.append(String.join("", told));
        if (random.nextInt(8) == 0 && joints > 4) {
            b.append("frame ").append(name(1)).append(" ").append(name(3)).append(" ").append(name(4)).append(";");
        }
        int driven = Math.min(grounds, joints - 1);
        for (int i = 0; i < driven; i++) {
            if (bars[driven][i] && (driven == grounds || random.nextInt(9) == 0)) {
                b.append("drive ").append(name(driven)).append(" about ").append(name(i)).append(" ;");
                break;
            }
        }
        wheels(b, joints);
        return spoiled(b);
    }

    private void wheels(StringBuilder b, int joints) {
        int wheels = random.nextInt(17);
        boolean great = random.nextBoolean();
        for (int i = 0; i < wheels; i++) {
            int teeth = !great ? 3 + random.nextInt(20) : new int[] {199, 197, 193, 3, 5, 7}[i % 2 * 3 + random.nextInt(3)];
            b.append("wheel ").append(wheelName(i)).append(" at ").append(name(random.nextInt(joints))).append(" ")
                .append(teeth).append(";");
        }
        for (int i = 1; i < wheels; i++) {
            int other = great || random.nextBoolean() ? i - 1 : random.nextInt(wheels);
            String kind = great ? i % 2 == 1 ? "belt " : "shaft "
                : new String[] {"mesh ", "belt ", "belt ", "shaft "}[random.nextInt(4)];
            if (other != i && random.nextInt(great ? 30 : 8) != 0) {
                b.append(kind).append(wheelName(i)).append(" ").append(wheelName(other)).append(";");
            }
        }
        if (wheels > 3 && random.nextInt(3) == 0) {
            b.append("belt ").append(wheelName(0)).append(" ").append(wheelName(1 + random.nextInt(wheels - 1))).append(";");
        }
    }

    private String spoiled(StringBuilder b) {
        if (random.nextInt(4) == 0 && b.length() > 4) {
            int at = random.nextInt(b.length());
            switch (random.nextInt(4)) {
                case 0: b.setLength(at); break;
                case 1: b.deleteCharAt(at); break;
                case 2: b.insert(at, ";ab-9 \n\u0001".charAt(random.nextInt(7))); break;
                default: b.setCharAt(at, "bcd1; -".charAt(random.nextInt(7))); break;
            }
        }
        return b.toString();
    }

    // ---- calls

    /** Mostly 0 to most, now and then beyond. */
    private int about(int most) {
        if (random.nextInt(25) == 0) {
            return new int[] {Integer.MIN_VALUE, Integer.MAX_VALUE, -1, most + 1, most + 2}[random.nextInt(5)];
        }
        return random.nextInt(most + 1);
    }

    private int member(int what) {
        return about((int) Math.max(0, model.count(what) - 1));
    }

    private void call() {
        int which = random.nextInt(33);
        if (which < 11) {
            askCounts(which);
        } else if (which < 20) {
            askTurning(which);
        } else if (which < 26) {
            askWheelsAndParts(which);
        } else {
            askRows(which);
        }
    }

    private void askCounts(int which) {
        int a = member(0);
        int b = member(0);
        int bar = member(2);
        int what = about(11);
        switch (which) {
            case 0: due("place", x.place(), model.place()); break;
            case 1: a = member(5); b = about(3); due("part " + a + " " + b, x.part(a, b), model.part(a, b)); break;
            case 2: due("needed " + bar, x.needed(bar), model.needed(bar)); break;
            case 3: due("together " + a + " " + b, x.together(a, b), model.together(a, b)); break;
            case 4: due("cluster " + bar, x.cluster(bar), model.cluster(bar)); break;
            case 5: due("mobility", x.mobility(), model.mobility()); break;
            case 6: what = about(2); due("rank " + what, x.rank(what), model.rank(what)); break;
            case 7: case 8:
                int k = about((int) Math.max(0, model.rank(1) - 1));
                int axis = about(1);
                due("motion " + k + " " + a + " " + axis, x.motion(k, a, axis), model.motion(k, a, axis));
                break;
            case 9: due("count " + what, x.count(what), model.count(what)); break;
            default: due("digest", x.digest(), model.digest()); break;
        }
    }

    private void askTurning(int which) {
        int joint = member(0);
        int axis = about(1);
        int step = about(255);
        int what = about(4);
        switch (which) {
            case 11: due("pose " + step, x.pose(step), model.pose(step)); break;
            case 12: case 13: due("at " + joint, x.at(joint, axis), model.at(joint, axis)); break;
            case 14: due("why " + joint, x.why(joint), model.why(joint)); break;
            case 15: due("order " + joint, x.order(joint, what), model.order(joint, what)); break;
            case 16: due("flip " + joint, x.flip(joint), model.flip(joint)); break;
            case 17:
                if (random.nextInt(3) == 0) {
                    due("trace " + joint, x.trace(joint), model.trace(joint));
                }
                break;
            case 18: due("curve " + step, x.curve(step, axis), model.curve(step, axis)); break;
            default: due("told " + what, x.told(what), model.told(what)); break;
        }
    }

    private void askWheelsAndParts(int which) {
        int part = member(5);
        int a = member(3);
        int b = member(3);
        int what = about(2);
        int kind = about(6);
        switch (which) {
            case 20: what = about(1); due("ratio " + a + " " + b, x.ratio(a, b, what), model.ratio(a, b, what)); break;
            case 21: due("lock", x.lock(), model.lock()); break;
            case 22: fourBars(); break;
            case 23: due("ask " + part + " " + what, x.ask(part, what), model.ask(part, what)); break;
            case 24: what = about(6); due("trail " + what, x.trail(what), model.trail(what)); break;
            default:
                due("is " + part + " " + kind, x.is(part, kind), model.is(part, kind));
                due("as " + part + " " + kind, x.as(part, kind), model.as(part, kind));
                break;
        }
    }

    private void fourBars() {
        int most = new int[] {4, 12, 10001}[random.nextInt(3)];
        int a = random.nextInt(most + 1);
        int b = random.nextInt(most + 1);
        int c = random.nextInt(most + 1);
        int d = random.nextInt(most + 1);
        due("fourBars " + a + " " + b + " " + c + " " + d, x.fourBars(a, b, c, d), Model.fourBars(a, b, c, d));
    }

    private void askRows(int which) {
        int row = about(7);
        int other = random.nextBoolean() ? row ^ 4 * random.nextInt(2) : about(7);
        int i = about(9);
        int j = about(9);
        int n = which != 26 ? about(6) : random.nextInt(3) == 0 ? about(300) : about(20);
        int lane = about(3);
        long v = random.nextLong() >> random.nextInt(64);
        switch (which) {
            case 26:
                lane = random.nextInt(6) == 0 ? lane : row & 3;
                due("lay " + row + " " + n, x.lay(row, lane, n), model.lay(row, lane, n));
                break;
            case 27: if (lane == 0) { due("drop " + row, x.drop(row), model.drop(row)); } break;
            case 28: due("put " + row + " " + i, x.put(row, i, v), model.put(row, i, v)); break;
            case 29: due("get " + row + " " + i, x.get(row, i), model.get(row, i)); break;
            case 30: due("move " + row + " " + other, x.move(row, i, other, j, n), model.move(row, i, other, j, n)); break;
            case 31: i = about(1); due("keep " + row, x.keep(row, i), model.keep(row, i)); break;
            default: due("status", x.status(), model.status()); break;
        }
    }
}
