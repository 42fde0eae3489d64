/** The edges that '2 COUNTS' and promises 6 to 9 name. */
public final class CountsEdgesTest {
    private static final int BAD = LinkageCurves.BAD;
    private static final int[] FAR = {-1, Integer.MIN_VALUE, Integer.MAX_VALUE};
    private static final Check CHECK = new Check();

    public static void main(String[] args) {
        ties();
        tiesAreAhead();
        neededUpToTheCount();
        everySetCounts();
        spareOnesDoNotCount();
        mostBars();
        needed();
        together();
        togetherBad();
        cluster();
        clusterBad();
        mobility();
        CHECK.end();
    }

    private static String joints(String word, int n) {
        StringBuilder b = new StringBuilder();
        for (int i = 0; i < n; i++) {
            b.append(word).append(' ').append((char) ('a' + i)).append(' ').append(i).append(' ').append(i * i).append(';');
        }
        return b.toString();
    }

    /** What needed() tells of all BARS, in order. */
    private static void needed(String what, String text, String due) {
        Desk x = Desk.of(text);
        CHECK.due(what + ": BARS", x.count(2), due.length());
        for (int bar = 0; bar < due.length(); bar++) {
            CHECK.due(what + ": needed(" + bar + ")", x.needed(bar), due.charAt(bar) - '0');
        }
    }

    private static void ties() {
        CHECK.on("'TIES hold GROUND together': none with fewer than two");
        CHECK.due("no JOINT", new Desk().count(6), 0);
        CHECK.due("no GROUND", Desk.of(joints("joint", 5)).count(6), 0);
        CHECK.due("one", Desk.of("joint p 9 9;" + joints("ground", 1)).count(6), 0);
        CHECK.on("'between the first two GROUND JOINTS, then from each further one to the first, then to the second one'");
        CHECK.due("two", Desk.of("joint p 9 9;" + joints("ground", 2)).count(6), 1);
        CHECK.due("three", Desk.of(joints("ground", 3)).count(6), 3);
        CHECK.due("four", Desk.of(joints("ground", 4)).count(6), 5);
        Desk x = Desk.of(joints("ground", 24));
        CHECK.due("all 24", x.count(6), 45);
        CHECK.due("mobility() of 24", x.mobility(), 0);
        CHECK.due("together(22, 23)", x.together(22, 23), 1);
        // Were the third one tied once only, a BAR to it would be NEEDED.
        needed("three", joints("ground", 3) + "frame a b c;", "000");
        needed("four", joints("ground", 4) + "frame a b c d;bar a c;bar b d;", "000000");
    }

    private static void tiesAreAhead() {
        CHECK.on("'ITEMS are, in order, the TIES, then the BARS': a BAR is SPARE, not the TIE");
        Desk x = Desk.of("joint p 5 5;ground a 0 0;bar a p;ground b 9 0;bar a b;bar p b;");
        CHECK.due("bar a p", x.needed(0), 1);
        CHECK.due("bar a b", x.needed(1), 0);
        CHECK.due("bar p b", x.needed(2), 1);
        CHECK.due("mobility()", x.mobility(), 0);
    }

    private static void neededUpToTheCount() {
        CHECK.on("'no n JOINTS (n 2 or more) have more than 2 n - 3': as many are NEEDED, one more is SPARE");
        needed("n = 2", "joint a 0 0;joint b 1 1;bar a b;", "1");
        needed("n = 2 with a TIE", "ground a 0 0;ground b 1 1;bar a b;", "0");
        needed("n = 3", joints("joint", 3) + "frame a b c;", "111");
        needed("n = 4", joints("joint", 4) + "frame a b c d;bar a c;bar b d;", "111110");
        needed("n = 4, in another order", joints("joint", 4) + "bar b d;bar a c;frame a b c d;", "111110");
        needed("n = 5", joints("joint", 5) + "frame a b c d e;frame a c e b d;", "1111111000");
    }

    private static void everySetCounts() {
        CHECK.on("'no n JOINTS': a part of them has too many, though all together have not");
        needed("four of seven", joints("joint", 7) + "frame a b c d;bar a c;bar b d;chain d e f g;", "111110111");
        needed("four of seven, from the end", joints("joint", 7) + "chain a b c d;frame d e f g;bar d f;bar e g;", "111111110");
        needed("GROUND and one", joints("ground", 2) + "joint p 9 9;joint q 8 7;chain a p b;bar a q;bar p q;bar b q;", "11110");
    }

    private static void spareOnesDoNotCount() {
        CHECK.on("'with it and the NEEDED ones ahead of it': SPARE ones ahead do not count");
        needed("two SPARE ones ahead", joints("joint", 5) + "frame a b c d;bar a c;bar b d;bar e a;bar e b;bar e c;", "111110110");
        needed("SPARE by TIES", joints("ground", 3) + "joint p 9 1;frame a b c;bar p c;bar p b;bar p a;", "000110");
    }

    private static void mostBars() {
        CHECK.on("'2 n - 3' with all 24 JOINTS and all 60 BARS");
        StringBuilder text = new StringBuilder(joints("joint", 24)).append("chain a");
        int joint = 0;
        for (int i = 0; i < 60; i++) {
            joint = (joint + (i < 24 ? 1 : i < 48 ? 5 : 7)) % 24;
            text.append(' ').append((char) ('a' + joint));
        }
        text.append(';');
        Desk x = Desk.of(text.toString());
        Model model = new Model();
        for (char c : text.toString().toCharArray()) {
            model.feed(1, c);
        }
        model.read();
        int all = 0;
        for (int bar = 0; bar < 60; bar++) {
            int is = x.needed(bar);
            all += is;
            CHECK.due("needed(" + bar + ")", is, model.needed(bar));
        }
        CHECK.due("NEEDED ones", all, 45);
        CHECK.due("mobility()", x.mobility(), 0);
        CHECK.due("CLUSTERS", x.count(7), 1);
        CHECK.due("cluster(59)", x.cluster(59), 0);
        CHECK.due("together(0, 23)", x.together(0, 23), 1);
        CHECK.due("one BAR more", x.needed(60), BAD);
    }

    private static void needed() {
        CHECK.on("6: 'BAD'");
        Desk x = Rich.turned();
        CHECK.due("the last BAR", x.again().needed(Rich.BARS - 1), 0);
        CHECK.due("the one ahead", x.again().needed(Rich.BARS - 2), 1);
        CHECK.refused("one more", x, y -> y.needed(Rich.BARS), BAD);
        for (int n : FAR) {
            CHECK.refused("needed(" + n + ")", x, y -> y.needed(n), BAD);
        }
        CHECK.due("no BARS", Desk.of("joint a 0 0;joint b 1 1;").needed(0), BAD);
        Desk less = Desk.of(Rich.DRIVEN);
        less.read("joint a 0 0;joint b 1 1;bar a b;");
        CHECK.due("BARS of the text ahead", less.needed(1), BAD);
    }

    private static void together() {
        CHECK.on("'(one with itself always)'");
        CHECK.due("the only one", Desk.of("joint a 0 0;").together(0, 0), 1);
        CHECK.due("the only one, GROUND", Desk.of("ground a 0 0;").together(0, 0), 1);
        Desk x = Desk.of(joints("joint", 24));
        for (int i = 0; i < 24; i++) {
            CHECK.due("together(" + i + ", " + i + ")", x.together(i, i), 1);
            CHECK.due("together(" + i + ", " + (i + 1) % 24 + ")", x.together(i, (i + 1) % 24), 0);
        }
        CHECK.on("'if one more ITEM between them, behind all, would be SPARE'");
        CHECK.due("two without a BAR", Desk.of(joints("joint", 2)).together(0, 1), 0);
        CHECK.due("two with a BAR", Desk.of(joints("joint", 2) + "bar a b;").together(1, 0), 1);
        CHECK.due("two of GROUND", Desk.of(joints("ground", 2)).together(0, 1), 1);
        CHECK.due("GROUND and another", Desk.of("ground a 0 0;joint b 1 1;").together(0, 1), 0);
        Desk chain = Desk.of(joints("joint", 3) + "chain a b c;");
        CHECK.due("the ends of a chain", chain.together(0, 2), 0);
        CHECK.due("those of a SPARE BAR", Desk.of(joints("joint", 4) + "frame a b c d;bar a c;bar b d;").together(1, 3), 1);
        Desk five = Desk.of(joints("joint", 4) + "frame a b c d;bar a c;");
        CHECK.due("'behind all': the last BAR counts", five.together(1, 3), 1);
        CHECK.due("it may be asked again", five.together(1, 3), 1);
        CHECK.due("and leaves needed()", five.needed(4), 1);
    }

    private static void togetherBad() {
        CHECK.on("7: 'BAD'");
        Desk x = Rich.turned();
        CHECK.due("the last JOINT", x.again().together(Rich.JOINTS - 1, 1), 0);
        CHECK.due("the last JOINT with itself", x.again().together(Rich.JOINTS - 1, Rich.JOINTS - 1), 1);
        CHECK.refused("one more", x, y -> y.together(Rich.JOINTS, 0), BAD);
        CHECK.refused("with one more", x, y -> y.together(0, Rich.JOINTS), BAD);
        CHECK.refused("one more with itself", x, y -> y.together(Rich.JOINTS, Rich.JOINTS), BAD);
        for (int n : FAR) {
            CHECK.refused("together(" + n + ", 0)", x, y -> y.together(n, 0), BAD);
            CHECK.refused("together(0, " + n + ")", x, y -> y.together(0, n), BAD);
            CHECK.refused("together(" + n + ", itself)", x, y -> y.together(n, n), BAD);
        }
    }

    private static void cluster() {
        CHECK.on("8: 'The least BAR of the CLUSTER': a BAR alone, the first one, the last one");
        Desk x = Desk.of(joints("joint", 2) + "bar a b;");
        CHECK.due("the only BAR", x.cluster(0), 0);
        CHECK.due("CLUSTERS", x.count(7), 1);
        CHECK.due("CLUSTERS without a BAR", Desk.of(joints("ground", 4)).count(7), 0);
        x = Desk.of(joints("joint", 3) + "chain a b c;");
        CHECK.due("two at one JOINT: the second", x.cluster(1), 1);
        CHECK.due("two at one JOINT: CLUSTERS", x.count(7), 2);
        CHECK.on("'if each JOINT of the one is TOGETHER with each of the other': not if one pair is not");
        x = Desk.of(joints("joint", 5) + "frame a b c;frame c d e;");
        int[] due = {0, 0, 0, 3, 3, 3};
        for (int bar = 0; bar < 6; bar++) {
            CHECK.due("two triangles at a JOINT: " + bar, x.cluster(bar), due[bar]);
        }
        x = Desk.of(joints("joint", 5) + "frame a b c;frame c d e;bar b d;");
        CHECK.due("with a BAR across: the last one", x.cluster(6), 0);
        CHECK.due("with a BAR across: CLUSTERS", x.count(7), 1);
        x = Desk.of(joints("ground", 4) + "joint p 9 9;bar a b;bar p a;bar c d;");
        CHECK.due("GROUND: apart, but one CLUSTER", x.cluster(2), 0);
        CHECK.due("GROUND: one that turns", x.cluster(1), 1);
        CHECK.due("GROUND: CLUSTERS", x.count(7), 2);
    }

    private static void clusterBad() {
        CHECK.on("8: 'BAD'");
        Desk x = Rich.turned();
        CHECK.due("the last BAR", x.again().cluster(Rich.BARS - 1), 6);
        CHECK.refused("one more", x, y -> y.cluster(Rich.BARS), BAD);
        for (int n : FAR) {
            CHECK.refused("cluster(" + n + ")", x, y -> y.cluster(n), BAD);
        }
        CHECK.due("no BARS", Desk.of("joint a 0 0;joint b 1 1;").cluster(0), BAD);
    }

    private static void mobility() {
        CHECK.on("'MOBILITY is .. 0 with fewer than two'");
        CHECK.due("no JOINT", new Desk().mobility(), 0);
        CHECK.due("one", Desk.of("joint a 0 0;").mobility(), 0);
        CHECK.due("one of GROUND", Desk.of("ground a 0 0;").mobility(), 0);
        CHECK.on("'MOBILITY is 2 n - 3 less how many ITEMS are NEEDED'");
        CHECK.due("two", Desk.of(joints("joint", 2)).mobility(), 1);
        CHECK.due("two and a BAR", Desk.of(joints("joint", 2) + "bar a b;").mobility(), 0);
        CHECK.due("two of GROUND", Desk.of(joints("ground", 2)).mobility(), 0);
        CHECK.due("GROUND and another", Desk.of("ground a 0 0;joint b 1 1;").mobility(), 1);
        CHECK.due("three", Desk.of(joints("joint", 3)).mobility(), 3);
        CHECK.due("24", Desk.of(joints("joint", 24)).mobility(), 45);
        CHECK.due("24 and a BAR", Desk.of(joints("joint", 24) + "bar a x;").mobility(), 44);
        CHECK.due("SPARE ones do not count", Desk.of(joints("joint", 4) + "frame a b c d;bar a c;bar b d;").mobility(), 0);
        Desk x = Desk.of(joints("joint", 24));
        x.read("joint a 0 0;");
        CHECK.due("one, behind 24", x.mobility(), 0);
    }
}
