import java.util.ArrayList;
import java.util.List;
import java.util.Random;

/** Promises 6 to 9, and of 33 TIES and CLUSTERS: needed, together, cluster, mobility. */
public final class CountsTest {
    private static final int BAD = LinkageCurves.BAD;
    private static final Check CHECK = new Check();

    public static void main(String[] args) {
        square();
        grounds();
        twoPlates();
        sixJoints();
        few();
        bad();
        Random random = new Random(7);
        for (int i = 0; i < 300; i++) {
            byAllSets(random);
        }
        CHECK.end();
    }

    private static void square() {
        Desk x = Desk.of("joint a 0 0;joint b 9 0;joint c 9 9;joint d 0 9;frame a b c d;bar a c;bar b d;");
        for (int bar = 0; bar < 5; bar++) {
            CHECK.due("square: needed " + bar, x.needed(bar), 1);
        }
        CHECK.due("square: the second diagonal", x.needed(5), 0);
        CHECK.due("square: mobility", x.mobility(), 0);
        CHECK.due("square: clusters", x.count(7), 1);
        x = Desk.of("joint a 0 0;joint b 9 0;joint c 9 9;joint d 0 9;frame a b c d;");
        CHECK.due("open square: mobility", x.mobility(), 1);
        CHECK.due("open square: together 0 2", x.together(0, 2), 0);
        CHECK.due("open square: together 1 0", x.together(1, 0), 1);
        CHECK.due("open square: clusters", x.count(7), 4);
        CHECK.due("open square: cluster 3", x.cluster(3), 3);
    }

    private static void grounds() {
        Desk x = Desk.of("ground a 0 0;joint p 5 5;ground b 9 0;ground c 9 9;ground d 0 9;bar a b;bar c d;"
            + "bar p a;bar p b;bar p c;");
        CHECK.due("grounds: ties", x.count(6), 5);
        CHECK.due("grounds: a bar along a tie", x.needed(0), 0);
        CHECK.due("grounds: a bar between others", x.needed(1), 0);
        CHECK.due("grounds: first to p", x.needed(2), 1);
        CHECK.due("grounds: second to p", x.needed(3), 1);
        CHECK.due("grounds: third to p", x.needed(4), 0);
        CHECK.due("grounds: mobility", x.mobility(), 0);
        CHECK.due("grounds: hold together", x.together(3, 4), 1);
        CHECK.due("grounds: one cluster", x.count(7), 1);
        for (int n = 0; n <= 4; n++) {
            StringBuilder text = new StringBuilder();
            for (int i = 0; i < n; i++) {
                text.append("ground ").append((char) ('a' + i)).append(" 0 ").append(i).append(';');
            }
            x = Desk.of(text.toString());
            CHECK.due("ties of " + n, x.count(6), n < 2 ? 0 : 2 * n - 3);
            CHECK.due("mobility of " + n, x.mobility(), 0);
        }
    }

    /** Two triangles that share a JOINT: each holds together, both do not. */
    private static void twoPlates() {
        Desk x = Desk.of("joint a 0 0;joint b 4 0;joint c 0 4;joint d 9 9;joint e 9 5;frame c a b;bar d e;"
            + "chain e c d;");
        CHECK.due("plates: mobility", x.mobility(), 1);
        CHECK.due("plates: together a c", x.together(0, 2), 1);
        CHECK.due("plates: together c e", x.together(2, 4), 1);
        CHECK.due("plates: together a e", x.together(0, 4), 0);
        CHECK.due("plates: cluster 2", x.cluster(2), 0);
        CHECK.due("plates: cluster 3", x.cluster(3), 3);
        CHECK.due("plates: cluster 5", x.cluster(5), 3);
        CHECK.due("plates: clusters", x.count(7), 2);
    }

    /** Three with three others: all nine BARS are NEEDED, though no triangle is among them. */
    private static void sixJoints() {
        Desk x = Desk.of("joint a 0 0;joint b 3 0;joint c 8 0;joint u 1 1;joint v 4 1;joint w 6 1;"
            + "chain a u b v c w a v;chain b w;bar c u;");
        for (int bar = 0; bar < 9; bar++) {
            CHECK.due("six: needed " + bar, x.needed(bar), 1);
            CHECK.due("six: cluster " + bar, x.cluster(bar), 0);
        }
        CHECK.due("six: mobility", x.mobility(), 0);
        CHECK.due("six: together", x.together(0, 2), 1);
        CHECK.due("six: clusters", x.count(7), 1);
    }

    private static void few() {
        CHECK.due("one joint: mobility", Desk.of("joint a 0 0;").mobility(), 0);
        Desk x = Desk.of("joint a 0 0;joint b 1 0;");
        CHECK.due("two joints: mobility", x.mobility(), 1);
        CHECK.due("two joints: together", x.together(0, 1), 0);
        CHECK.due("with itself", x.together(1, 1), 1);
    }

    private static void bad() {
        Desk x = Desk.of("joint a 0 0;joint b 1 0;bar a b;");
        for (int n : new int[] {-1, 2, Integer.MIN_VALUE, Integer.MAX_VALUE}) {
            CHECK.due("needed " + n, x.needed(n), BAD);
            CHECK.due("cluster " + n, x.cluster(n), BAD);
            CHECK.due("together " + n, x.together(n, 0), BAD);
            CHECK.due("together 0 " + n, x.together(0, n), BAD);
        }
        CHECK.due("needed 1", x.needed(1), BAD);
        CHECK.due("cluster 1", x.cluster(1), BAD);
    }

    // ---- the document's words, taken literally: counts on all sets of joints

    private static boolean fits(List<int[]> items, int joints) {
        for (int set = 0; set < 1 << joints; set++) {
            int n = Integer.bitCount(set);
            int among = 0;
            for (int[] item : items) {
                among += (set >> item[0] & 1) & (set >> item[1] & 1);
            }
            if (n >= 2 && among > 2 * n - 3) {
                return false;
            }
        }
        return true;
    }

    private static boolean take(List<int[]> items, int a, int b, int joints) {
        items.add(new int[] {a, b});
        if (fits(items, joints)) {
            return true;
        }
        items.remove(items.size() - 1);
        return false;
    }

    private static void byAllSets(Random random) {
        int joints = 2 + random.nextInt(6);
        StringBuilder text = new StringBuilder();
        List<Integer> grounds = new ArrayList<>();
        for (int i = 0; i < joints; i++) {
            boolean ground = random.nextInt(4) == 0;
            if (ground) {
                grounds.add(i);
            }
            text.append(ground ? "ground " : "joint ").append((char) ('a' + i)).append(" 0 ").append(i).append(';');
        }
        List<int[]> bars = new ArrayList<>();
        int density = 2 + random.nextInt(3);
        for (int pair : random.ints(0, joints * joints).distinct().limit(joints * joints / density).toArray()) {
            int a = pair / joints;
            int b = pair % joints;
            if (a != b && bars.stream().noneMatch(p -> p[0] == b && p[1] == a)) {
                bars.add(new int[] {a, b});
                text.append("bar ").append((char) ('a' + a)).append(' ').append((char) ('a' + b)).append(';');
            }
        }
        Desk x = Desk.of(text.toString());
        List<int[]> needed = new ArrayList<>();
        for (int[] tie : Model.ties(grounds)) {
            take(needed, tie[0], tie[1], joints);
        }
        for (int i = 0; i < bars.size(); i++) {
            boolean is = take(needed, bars.get(i)[0], bars.get(i)[1], joints);
            CHECK.due("needed " + i + " of " + text, x.needed(i), is ? 1 : 0);
        }
        CHECK.due("mobility of " + text, x.mobility(), 2 * joints - 3 - needed.size());
        boolean[][] together = new boolean[joints][joints];
        for (int a = 0; a < joints; a++) {
            for (int b = 0; b < joints; b++) {
                together[a][b] = a == b || !take(new ArrayList<>(needed), a, b, joints);
                CHECK.due("together " + a + " " + b + " of " + text, x.together(a, b), together[a][b] ? 1 : 0);
            }
        }
        byClusters(x, bars, together, text.toString());
    }

    private static void byClusters(Desk x, List<int[]> bars, boolean[][] together, String text) {
        int clusters = 0;
        for (int i = 0; i < bars.size(); i++) {
            int least = 0;
            while (!areAll(together, bars.get(i), bars.get(least))) {
                least++;
            }
            clusters += least == i ? 1 : 0;
            CHECK.due("cluster " + i + " of " + text, x.cluster(i), least);
        }
        CHECK.due("clusters of " + text, x.count(7), clusters);
    }

    private static boolean areAll(boolean[][] together, int[] p, int[] q) {
        return together[p[0]][q[0]] && together[p[0]][q[1]] && together[p[1]][q[0]] && together[p[1]][q[1]];
    }
}
