import java.util.Arrays;

/** The edges that '5 WHEELS' with FOUR BARS and promises 20 to 22 name. */
public final class WheelsEdgesTest {
    private static final int NONE = LinkageCurves.NONE, BAD = LinkageCurves.BAD;
    private static final int[] FAR = {-1, Integer.MIN_VALUE, Integer.MAX_VALUE};
    private static final long GREATEST = 1000000000000L;
    /** Six hundreds to six threes: 10^12 / 729. */
    private static final int[] HUNDREDS = {100, 100, 100, 100, 100, 100}, THREES = {3, 3, 3, 3, 3, 3};
    /** 10^12 and 1763, the least number above 10^12 that TEETH can come to: each one less has a prime above 200. */
    private static final int[] ABOVE = {63, 31, 107, 139, 173, 199}, FOURS = {4, 4, 4, 4, 4, 4};
    private static final Check CHECK = new Check();

    public static void main(String[] args) {
        itself();
        notReached();
        firstCoupling();
        leastTerms();
        upToGreatest();
        beyondGreatest();
        reachedByGreat();
        ratioBad();
        noLock();
        firstLock();
        mostWheels();
        greatLocksNot();
        tooLong();
        longestAndShortest();
        firstShortest();
        fourBarsBad();
        CHECK.end();
    }

    private static void ratio(String what, Desk x, int a, int b, long upper, long lower) {
        CHECK.due(what + ": upper number", x.ratio(a, b, 0), upper);
        CHECK.due(what + ": lower number", x.ratio(a, b, 1), lower);
    }

    /** Pairs of WHEELS 0 1, 2 3, .. with the names aa ba, ab bb, .. */
    private static String pairs(int[] upper, int[] lower) {
        StringBuilder b = new StringBuilder("joint i 0 0;joint j 1 1;");
        for (int k = 0; k < upper.length; k++) {
            b.append("wheel a").append((char) ('a' + k)).append(" at i ").append(upper[k]).append(';');
            b.append("wheel b").append((char) ('a' + k)).append(" at j ").append(lower[k]).append(';');
        }
        return b.toString();
    }

    /** Belts in the pairs, but for the first one another word perhaps; shafts between them. */
    private static String coupled(String first, int pairs) {
        StringBuilder b = new StringBuilder();
        for (int k = 0; k < pairs; k++) {
            char at = (char) ('a' + k);
            b.append(k == 0 ? first : "belt").append(" a").append(at).append(" b").append(at).append(';');
            if (k > 0) {
                b.append("shaft a").append(at).append(" b").append((char) (at - 1)).append(';');
            }
        }
        return b.toString();
    }

    private static String train(String first, int[] upper, int[] lower) {
        return pairs(upper, lower) + coupled(first, upper.length);
    }

    private static int[] with(int[] teeth, int more) {
        int[] all = Arrays.copyOf(teeth, teeth.length + 1);
        all[teeth.length] = more;
        return all;
    }

    private static void itself() {
        CHECK.on("'a is reached, by 1 / 1'");
        Desk x = Desk.of("joint i 0 0;joint j 1 1;wheel a at i 3;wheel b at j 200;mesh a b;wheel l at i 7;");
        for (int wheel = 0; wheel < 3; wheel++) {
            ratio("WHEEL " + wheel, x, wheel, wheel, 1, 1);
        }
        CHECK.on("'A mesh turns as many TEETH of both, opposite ways; a belt as many, the same way; a shaft both alike'");
        ratio("3 to 200", x, 0, 1, -3, 200);
        ratio("200 to 3", x, 1, 0, -200, 3);
        Desk y = Desk.of("joint i 0 0;joint j 1 1;wheel a at i 3;wheel b at j 200;belt a b;");
        ratio("belt", y, 0, 1, 3, 200);
        y = Desk.of("joint i 0 0;joint j 1 1;wheel a at i 3;wheel b at j 200;shaft b a;");
        ratio("shaft", y, 0, 1, 1, 1);
    }

    private static void notReached() {
        CHECK.on("20: 'NONE: it is not reached'");
        Desk x = Desk.of("joint i 0 0;joint j 1 1;wheel a at i 3;wheel b at j 20;wheel c at i 7;wheel d at j 9;mesh a b;belt c d;");
        ratio("a to c", x, 0, 2, NONE, NONE);
        ratio("d to b", x, 3, 1, NONE, NONE);
        ratio("no COUPLINGS", Desk.of("joint i 0 0;wheel a at i 9;wheel b at i 9;"), 0, 1, NONE, NONE);
    }

    private static void firstCoupling() {
        CHECK.on("'the first COUPLING that has one end that is reached and one that is not .. each time from the first COUPLING on'");
        String wheels = "joint i 0 0;joint j 1 1;wheel a at i 10;wheel b at j 20;wheel c at i 40;wheel d at j 80;";
        Desk x = Desk.of(wheels + "belt a c;shaft a c;");
        ratio("the first of two", x, 0, 2, 1, 4);
        x = Desk.of(wheels + "shaft a c;belt a c;");
        ratio("the first of two, exchanged", x, 0, 2, 1, 1);
        // b is reached by the third one; then the first one, c to b, comes ahead of the last one, a to c.
        x = Desk.of(wheels + "shaft c b;shaft d c;belt a b;belt a c;");
        ratio("from the first one on", x, 0, 2, 1, 2);
        ratio("and on", x, 0, 3, 1, 2);
    }

    private static void leastTerms() {
        CHECK.on("'as a fraction in least terms (the lower number above 0)'");
        Desk x = Desk.of("joint i 0 0;joint j 1 1;wheel a at i 200;wheel b at j 50;wheel c at i 150;mesh a b;mesh b c;mesh a b;");
        ratio("200 / 50", x, 0, 1, -4, 1);
        ratio("50 / 200", x, 1, 0, -1, 4);
        ratio("200 / 150", x, 0, 2, 4, 3);
        ratio("150 / 200", x, 2, 0, 3, 4);
        Desk even = Desk.of("joint i 0 0;wheel a at i 4;wheel b at i 6;wheel c at i 9;belt a b;belt b c;");
        ratio("4 / 6", even, 0, 1, 2, 3);
        ratio("6 / 9", even, 1, 2, 2, 3);
        ratio("4 / 9", even, 0, 2, 4, 9);
        CHECK.on("'above 10^12 .. in least terms': above it only ahead of that is not GREAT");
        // 9 10^12 / (729 200)
        x = Desk.of(train("belt", with(HUNDREDS, 9), with(THREES, 200)));
        ratio("10^12 / 729, 9 to 200", x, 0, 13, 5000000000L, 81);
        ratio("the other way", x, 13, 0, 81, 5000000000L);
    }

    private static void upToGreatest() {
        CHECK.on("'above 10^12, or below -10^12': 10^12 itself is not");
        Desk x = Desk.of(train("belt", HUNDREDS, THREES));
        ratio("10^12", x, 0, 11, GREATEST, 729);
        ratio("10^12 below", x, 11, 0, 729, GREATEST);
        x = Desk.of(train("mesh", HUNDREDS, THREES));
        ratio("-10^12", x, 0, 11, -GREATEST, 729);
        ratio("10^12 below, the other way round", x, 11, 0, -729, GREATEST);
    }

    private static void beyondGreatest() {
        CHECK.on("20: '0: it is GREAT': the least number above 10^12");
        for (String word : new String[] {"belt", "mesh"}) {
            Desk x = Desk.of(train(word, ABOVE, FOURS));
            int sign = word.equals("mesh") ? -1 : 1;
            ratio(word + ": one pair less", x, 0, 9, sign * 63L * 31 * 107 * 139 * 173, 1024);
            ratio(word + ": the upper number", x, 0, 11, 0, 0);
            ratio(word + ": the lower number", x, 11, 0, 0, 0);
            ratio(word + ": one pair less, lower number", x, 11, 2, 1024, 31L * 107 * 139 * 173 * 199);
        }
    }

    private static void reachedByGreat() {
        CHECK.on("'and so is what a GREAT one reaches'");
        Desk x = Desk.of(train("belt", with(ABOVE, 3), with(FOURS, 200)));
        ratio("GREAT itself", x, 0, 11, 0, 0);
        ratio("by a shaft", x, 0, 12, 0, 0);
        ratio("by a belt to what would be less", x, 0, 13, 0, 0);
        ratio("the last one, of one nearer", x, 12, 13, 3, 200);
        CHECK.on("'GREAT': of two ways the first COUPLING's, though the other is not");
        String shaft = "shaft aa bf;";
        ratio("the train first", Desk.of(train("belt", ABOVE, FOURS) + shaft), 0, 11, 0, 0);
        ratio("the shaft first", Desk.of(pairs(ABOVE, FOURS) + shaft + coupled("belt", 6)), 0, 11, 1, 1);
    }

    private static void ratioBad() {
        CHECK.on("20: 'BAD'");
        Desk x = Rich.turned();
        CHECK.due("the last WHEEL", x.again().ratio(Rich.WHEELS - 1, Rich.WHEELS - 1, 1), 1);
        CHECK.refused("a: one more", x, y -> y.ratio(Rich.WHEELS, 0, 0), BAD);
        CHECK.refused("b: one more", x, y -> y.ratio(0, Rich.WHEELS, 0), BAD);
        CHECK.refused("both: one more", x, y -> y.ratio(Rich.WHEELS, Rich.WHEELS, 0), BAD);
        CHECK.refused("what 2", x, y -> y.ratio(0, 0, 2), BAD);
        for (int n : FAR) {
            CHECK.refused("ratio(" + n + ", 0, 0)", x, y -> y.ratio(n, 0, 0), BAD);
            CHECK.refused("ratio(0, " + n + ", 0)", x, y -> y.ratio(0, n, 0), BAD);
            CHECK.refused("ratio(0, 0, " + n + ")", x, y -> y.ratio(0, 0, n), BAD);
        }
        CHECK.due("no WHEELS", Desk.of("joint a 0 0;").ratio(0, 0, 0), BAD);
        Desk less = Desk.of(Rich.DRIVEN);
        less.read("joint a 0 0;wheel u at a 9;");
        CHECK.due("a WHEEL of the text ahead", less.ratio(0, 1, 0), BAD);
    }

    private static final String FOUR = "joint i 0 0;joint j 1 1;wheel a at i 10;wheel b at j 20;wheel c at i 40;wheel d at j 7;";

    private static void noLock() {
        CHECK.on("21: 'NONE'");
        CHECK.due("nothing", new Desk().lock(), NONE);
        CHECK.due("no COUPLINGS", Desk.of(FOUR).lock(), NONE);
        CHECK.due("one", Desk.of(FOUR + "mesh a b;").lock(), NONE);
        CHECK.due("the same twice, and the other way", Desk.of(FOUR + "mesh a b;mesh a b;mesh b a;").lock(), NONE);
        CHECK.due("a ring that turns", Desk.of(FOUR + "mesh a b;mesh b c;belt c a;").lock(), NONE);
        CHECK.due("all 30", Desk.of(FOUR + "mesh a b;".repeat(30)).lock(), NONE);
    }

    private static void firstLock() {
        CHECK.on("'LOCK: the first COUPLING that does not hold'");
        CHECK.due("by its sign", Desk.of(FOUR + "mesh a b;belt a b;").lock(), 1);
        CHECK.due("by its number", Desk.of(FOUR + "belt a b;shaft a b;").lock(), 1);
        CHECK.due("of two", Desk.of(FOUR + "mesh a b;mesh b a;shaft a b;belt a b;").lock(), 2);
        CHECK.due("the last of 30", Desk.of(FOUR + "mesh a b;".repeat(29) + "belt a b;").lock(), 29);
        CHECK.due("of another train", Desk.of(FOUR + "mesh c d;mesh a b;shaft d c;shaft b a;").lock(), 2);
        Desk twice = Desk.of(FOUR + "mesh a b;belt a b;");
        CHECK.due("asked once", twice.lock(), 1);
        CHECK.due("asked again", twice.lock(), 1);
        ratio("asked between", twice, 2, 2, 1, 1);
        CHECK.due("and again", twice.lock(), 1);
        CHECK.on("'to the least WHEEL that hangs together with them'");
        // From a on c is reached by the belt, the second one, so the third one fails; from b on it would be the second.
        Desk x = Desk.of(FOUR + "shaft b c;belt a c;mesh a b;");
        CHECK.due("lock()", x.lock(), 2);
        CHECK.due("lock() again", x.lock(), 2);
        ratio("a to b", x, 0, 1, 1, 4);
        ratio("b to a", x, 1, 0, 4, 1);
        CHECK.due("one with fewer TEETH is not the least", Desk.of("joint i 0 0;joint j 1 1;joint k 2 2;wheel a at i 90;"
            + "wheel b at j 20;wheel c at k 4;mesh b c;mesh a b;mesh c a;").lock(), 2);
    }

    private static void mostWheels() {
        CHECK.on("RATIO and LOCK with all 16 WHEELS and all 30 COUPLINGS");
        StringBuilder b = new StringBuilder("joint i -1000 1000;");
        for (int i = 0; i < 16; i++) {
            b.append("wheel w").append((char) ('a' + i)).append(" at i ").append(i % 2 == 0 ? 3 : 4).append(';');
        }
        // Told from the far end on, so that a reaches each one by the last COUPLING that is left.
        for (int i = 15; i > 0; i--) {
            b.append("belt w").append((char) ('a' + i)).append(" w").append((char) ('a' + i - 1)).append(';');
        }
        String once = b.toString();
        Desk x = Desk.of(once + "belt wa wb;".repeat(15));
        ratio("the last one", x, 0, 15, 3, 4);
        ratio("the first one", x, 15, 0, 4, 3);
        CHECK.due("they hold", x.lock(), NONE);
        CHECK.due("the last one does not", Desk.of(once + "belt wa wb;".repeat(14) + "shaft wo wp;").lock(), 29);
    }

    private static void greatLocksNot() {
        CHECK.on("'none of both GREAT'");
        // The last pair is GREAT from WHEEL 0 on, on both sides, then on one side.
        String train = train("belt", with(ABOVE, 199), with(FOURS, 3));
        CHECK.due("both GREAT", Desk.of(train + "shaft ag bg;").lock(), NONE);
        CHECK.due("one GREAT", Desk.of(train("belt", ABOVE, FOURS) + "shaft af bf;").lock(), NONE);
        CHECK.due("one GREAT, the other way", Desk.of(train("belt", ABOVE, FOURS) + "shaft bf af;").lock(), NONE);
        CHECK.due("none GREAT", Desk.of(train("belt", HUNDREDS, THREES) + "shaft af bf;").lock(), 11);
        CHECK.due("behind a GREAT one", Desk.of(train("belt", ABOVE, FOURS) + "shaft af bf;shaft ae be;").lock(), 12);
        // By the last belt bg would be 7 10^12 / 2187, but the first shaft reached it: no GREAT one, and it does not hold.
        CHECK.due("one that ought to be GREAT", Desk.of(pairs(with(HUNDREDS, 7), with(THREES, 3)) + "shaft aa bg;"
            + coupled("belt", 6) + "shaft ag bf;belt ag bg;").lock(), 13);
    }

    private static void tooLong() {
        CHECK.on("'0, if l is the sum of the others or more'");
        int[][] due = {{3, 1, 1, 1, 0}, {1, 3, 1, 1, 0}, {1, 1, 3, 1, 0}, {1, 1, 1, 3, 0}, {4, 1, 1, 1, 0}, {10000, 1, 1, 1, 0},
            {10000, 3333, 3333, 3334, 0}, {9, 2, 3, 4, 0}, {10, 2, 3, 4, 0}};
        judge(due);
        CHECK.on("'the sum of the others': one less is not");
        judge(new int[][] {{8, 2, 3, 4, 1}, {2, 1, 1, 1, 1}, {10000, 3333, 3334, 3334, 1}, {1, 1, 2, 1, 1}});
    }

    private static void longestAndShortest() {
        CHECK.on("'1, if s and l are more than the other two'");
        judge(new int[][] {{2, 7, 4, 4, 1}, {4, 8, 5, 6, 1}, {7, 4, 4, 2, 1}, {9999, 10000, 9999, 9999, 1}});
        CHECK.on("'2, if they are as much'");
        judge(new int[][] {{2, 6, 4, 4, 2}, {1, 1, 1, 1, 2}, {10000, 10000, 10000, 10000, 2}, {3, 5, 3, 5, 2}, {4, 4, 2, 6, 2},
            {1, 10000, 1, 10000, 2}});
        CHECK.on("'else': one less");
        judge(new int[][] {{2, 5, 4, 4, 3}, {4, 2, 5, 4, 4}, {4, 4, 2, 5, 5}, {5, 4, 4, 2, 6}, {9999, 10000, 10000, 10000, 3}});
    }

    private static void firstShortest() {
        CHECK.on("'by the first that is s: 3 ground, 4 input, 5 coupler, 6 output'");
        // Two that are s leave s and l as much as the others at least, so s is one alone here.
        judge(new int[][] {{1, 10000, 10000, 10000, 3}, {10000, 1, 10000, 10000, 4}, {10000, 10000, 1, 10000, 5},
            {10000, 10000, 10000, 1, 6}, {1, 2, 2, 2, 3}, {2, 1, 2, 2, 4}, {2, 2, 1, 2, 5}, {2, 2, 2, 1, 6}});
    }

    private static void judge(int[][] due) {
        Desk x = new Desk();
        for (int[] d : due) {
            CHECK.due("fourBars(" + d[0] + ", " + d[1] + ", " + d[2] + ", " + d[3] + ")", x.fourBars(d[0], d[1], d[2], d[3]), d[4]);
        }
    }

    private static void fourBarsBad() {
        CHECK.on("'FOUR BARS of lengths (1 .. 10000)', 22: 'BAD'");
        judge(new int[][] {{1, 1, 1, 1, 2}, {10000, 10000, 10000, 10000, 2}, {10000, 1, 1, 1, 0}});
        Desk x = Rich.turned();
        for (int n : new int[] {0, 10001, -1, Integer.MIN_VALUE, Integer.MAX_VALUE}) {
            CHECK.refused("ground " + n, x, y -> y.fourBars(n, 5, 5, 5), BAD);
            CHECK.refused("input " + n, x, y -> y.fourBars(5, n, 5, 5), BAD);
            CHECK.refused("coupler " + n, x, y -> y.fourBars(5, 5, n, 5), BAD);
            CHECK.refused("output " + n, x, y -> y.fourBars(5, 5, 5, n), BAD);
            CHECK.refused("all " + n, x, y -> y.fourBars(n, n, n, n), BAD);
        }
    }
}
