import java.math.BigInteger;
import java.util.ArrayList;
import java.util.Arrays;
import java.util.List;
import java.util.regex.Matcher;
import java.util.regex.Pattern;

/**
 * The document once more, written another way than the program (texts by regular expressions,
 * numbers of any size, counts by ranks at places taken at random): what random runs are held against.
 */
final class Model {
    static final int NONE = -1000000, BAD = -1000001, STATE = -1000002, FULL = -1000003;
    private static final List<String> WORDS = Arrays.asList("ground", "joint", "bar", "chain", "frame", "wheel",
        "at", "mesh", "belt", "shaft", "drive", "about");
    private static final Pattern TOKEN = Pattern.compile("[a-z]+|-?[0-9]+|[\\s\\S]");

    static final class Part {
        int kind, number, a, b;
        String name;
    }

    static final class Fault extends RuntimeException {
        private static final long serialVersionUID = 1L;
        final int number, place;

        Fault(int number, int place) {
            this.number = number;
            this.place = place;
        }
    }

    static final class Linkage {
        final List<Part> parts = new ArrayList<>(), joints = new ArrayList<>(), bars = new ArrayList<>(),
            wheels = new ArrayList<>(), couplings = new ArrayList<>();
        int driven = NONE, about = NONE;

        void add(int kind, String name, int a, int b) {
            List<Part> family = kind <= 1 ? joints : kind == 2 ? bars : kind == 3 ? wheels : couplings;
            Part p = new Part();
            p.kind = kind;
            p.number = family.size();
            p.a = a;
            p.b = b;
            p.name = name;
            family.add(p);
            parts.add(p);
        }

        static int find(List<Part> family, String name) {
            for (Part p : family) {
                if (p.name.equals(name)) {
                    return p.number;
                }
            }
            return -1;
        }

        boolean joined(int a, int b) {
            return bars.stream().anyMatch(p -> p.a == a && p.b == b || p.a == b && p.b == a);
        }
    }

    // ---- reading

    private static final class Text {
        final List<String> tokens = new ArrayList<>();
        final List<Integer> places = new ArrayList<>();
        int next = 0;
        final Linkage l = new Linkage();

        Text(String tape) {
            Matcher m = TOKEN.matcher(tape);
            while (m.find()) {
                String t = m.group();
                if (!t.equals(" ") && !t.equals("\n")) {
                    tokens.add(t);
                    places.add(m.start());
                }
            }
            tokens.add("");
            places.add(tape.length());
        }

        boolean is(String form) {
            return tokens.get(next).matches(form);
        }

        Fault fault(int number) {
            return new Fault(number, places.get(next));
        }

        String take(String form) {
            String t = tokens.get(next);
            if (!t.isEmpty() && !t.matches("[a-z]{1,6}|-?[0-9]{1,4}|;")) {
                throw fault(1);
            }
            if (!t.matches(form) || form.equals("[a-z]+") && WORDS.contains(t)) {
                throw fault(2);
            }
            next++;
            return t;
        }

        String fresh(List<Part> family, int most) {
            String t = take("[a-z]+");
            next--;
            if (Linkage.find(l.joints, t) >= 0 || Linkage.find(l.wheels, t) >= 0) {
                throw fault(3);
            }
            if (family.size() == most) {
                throw fault(6);
            }
            next++;
            return t;
        }

        int known(List<Part> family) {
            String t = take("[a-z]+");
            next--;
            int n = Linkage.find(family, t);
            if (n < 0) {
                throw fault(4);
            }
            next++;
            return n;
        }

        int number(int least, int most) {
            int n = Integer.parseInt(take("-?[0-9]+"));
            next--;
            if (n < least || n > most) {
                throw fault(5);
            }
            next++;
            return n;
        }

        /** The TOKEN taken last is the one at fault. */
        void bar(int a, int b) {
            next--;
            if (l.bars.size() == 60) {
                throw fault(6);
            }
            Part p = l.joints.get(a);
            Part q = l.joints.get(b);
            if (a == b || p.a == q.a && p.b == q.b || l.joined(a, b)) {
                throw fault(7);
            }
            next++;
            l.add(2, "", a, b);
        }

        Linkage read() {
            while (!is("")) {
                statement();
            }
            return l;
        }

        void statement() {
            String word = take("ground|joint|bar|chain|frame|wheel|mesh|belt|shaft|drive");
            if (word.equals("ground") || word.equals("joint")) {
                String name = fresh(l.joints, 24);
                int x = number(-1000, 1000);
                int y = number(-1000, 1000);
                take(";");
                l.add(word.equals("ground") ? 1 : 0, name, x, y);
            } else if (word.equals("bar") || word.equals("chain") || word.equals("frame")) {
                bars(word);
            } else if (word.equals("wheel")) {
                String name = fresh(l.wheels, 16);
                take("at");
                int joint = known(l.joints);
                int teeth = number(3, 200);
                take(";");
                l.add(3, name, joint, teeth);
            } else if (word.equals("drive")) {
                drive();
            } else {
                coupling(Arrays.asList("mesh", "belt", "shaft").indexOf(word) + 4);
            }
        }

        void bars(String word) {
            int first = known(l.joints);
            int last = first;
            int least = word.equals("frame") ? 3 : 2;
            for (int names = 1; names < least || !word.equals("bar") && !is(";"); names++) {
                int joint = known(l.joints);
                bar(last, joint);
                last = joint;
            }
            take(";");
            if (word.equals("frame")) {
                bar(last, first);
            }
        }

        void drive() {
            int driven = known(l.joints);
            take("about");
            int about = known(l.joints);
            next--;
            if (l.joints.get(about).kind != 1 || l.joints.get(driven).kind == 1 || !l.joined(driven, about)
                    || l.driven != NONE) {
                throw fault(8);
            }
            next++;
            l.driven = driven;
            l.about = about;
            take(";");
        }

        void coupling(int kind) {
            int a = known(l.wheels);
            int b = known(l.wheels);
            next--;
            if (l.couplings.size() == 30) {
                throw fault(6);
            }
            if (a == b || kind == 4 && l.wheels.get(a).a == l.wheels.get(b).a) {
                throw fault(7);
            }
            next++;
            take(";");
            l.add(kind, "", a, b);
        }
    }

    private String tape = "";
    private Linkage l = new Linkage();
    private int faultPlace = NONE;
    private int[] flips = new int[24];
    private long[][] pose;
    private long[][] curve;
    private List<Integer> trace = new ArrayList<>();
    private final int[] lanes = {-1, -1, -1, -1, -1, -1, -1, -1};
    private final long[][] rows = new long[8][];
    private int status;

    long feed(int n, long bytes) {
        if (n < 1 || n > 8) {
            return BAD;
        }
        if (tape.length() + n > 1200) {
            return FULL;
        }
        for (int i = 0; i < n; i++) {
            tape += (char) (bytes >> 8 * i & 255);
        }
        return tape.length();
    }

    long read() {
        String text = tape;
        tape = "";
        faultPlace = NONE;
        try {
            l = new Text(text).read();
        } catch (Fault f) {
            faultPlace = f.place;
            return -10 - f.number;
        }
        flips = new int[24];
        pose = null;
        curve = null;
        ranks = null;
        reduced = null;
        return l.parts.size();
    }

    long place() {
        return faultPlace;
    }

    long part(int part, int what) {
        if (!in(part, l.parts) || what < 0 || what > 3) {
            return BAD;
        }
        Part p = l.parts.get(part);
        return new int[] {p.kind, p.number, p.a, p.b}[what];
    }

    private static boolean in(int i, List<Part> list) {
        return i >= 0 && i < list.size();
    }

    // ---- counts: NEEDED is what adds to the rank of rows at places taken at random

    private static final long BIG = 2147483647L;
    private static final class Basis {
        final List<long[]> rows = new ArrayList<>();

        /** Whether a row adds to the rank; it is taken up then. */
        boolean add(long[] row, boolean keep) {
            long[] r = row.clone();
            for (long[] b : rows) {
                int lead = 0;
                while (b[lead] == 0) {
                    lead++;
                }
                long times = r[lead];
                for (int i = 0; i < r.length && times != 0; i++) {
                    r[i] = Math.floorMod(r[i] - times * b[i], BIG);
                }
            }
            int lead = 0;
            while (lead < r.length && r[lead] == 0) {
                lead++;
            }
            if (lead == r.length) {
                return false;
            }
            long inverse = BigInteger.valueOf(r[lead]).modInverse(BigInteger.valueOf(BIG)).longValue();
            for (int i = 0; i < r.length; i++) {
                r[i] = r[i] * inverse % BIG;
            }
            if (keep) {
                rows.add(r);
            }
            return true;
        }
    }

    private Basis ranks;
    private boolean[] neededBars;

    private long[] generic(int a, int b) {
        long[] row = new long[48];
        for (int axis = 0; axis < 2; axis++) {
            long d = Math.floorMod(spot(a, axis) - spot(b, axis), BIG);
            row[2 * a + axis] = d;
            row[2 * b + axis] = BIG - d;
        }
        return row;
    }

    private static long spot(int joint, int axis) {
        long h = 88172645463325252L + 7919L * (2 * joint + axis + 1);
        for (int i = 0; i < 20; i++) {
            h ^= h << 13;
            h ^= h >>> 7;
            h ^= h << 17;
        }
        return Math.floorMod(h, BIG);
    }

    static List<int[]> ties(List<Integer> grounds) {
        List<int[]> ties = new ArrayList<>();
        for (int i = 1; i < grounds.size(); i++) {
            ties.add(new int[] {grounds.get(i), grounds.get(0)});
            if (i > 1) {
                ties.add(new int[] {grounds.get(i), grounds.get(1)});
            }
        }
        return ties;
    }

    private List<Integer> grounds() {
        List<Integer> grounds = new ArrayList<>();
        for (Part p : l.joints) {
            if (p.kind == 1) {
                grounds.add(p.number);
            }
        }
        return grounds;
    }

    private void countItems() {
        if (ranks != null) {
            return;
        }
        ranks = new Basis();
        neededBars = new boolean[60];
        for (int[] tie : ties(grounds())) {
            ranks.add(generic(tie[0], tie[1]), true);
        }
        for (Part p : l.bars) {
            neededBars[p.number] = ranks.add(generic(p.a, p.b), true);
        }
    }

    long needed(int bar) {
        countItems();
        return in(bar, l.bars) ? neededBars[bar] ? 1 : 0 : BAD;
    }

    long together(int a, int b) {
        if (!in(a, l.joints) || !in(b, l.joints)) {
            return BAD;
        }
        countItems();
        return a == b || !ranks.add(generic(a, b), false) ? 1 : 0;
    }

    long cluster(int bar) {
        if (!in(bar, l.bars)) {
            return BAD;
        }
        Part p = l.bars.get(bar);
        for (Part q : l.bars) {
            if (together(p.a, q.a) + together(p.a, q.b) + together(p.b, q.a) + together(p.b, q.b) == 4) {
                return q.number;
            }
        }
        return NONE;
    }

    long mobility() {
        countItems();
        return l.joints.size() < 2 ? 0 : 2 * l.joints.size() - 3 - ranks.rows.size();
    }

    // ---- at the told places

    private static final long P = 1000003;
    private long[][] reduced;
    private List<Integer> leads;
    private List<Integer> columns;

    private void reduce() {
        if (reduced != null) {
            return;
        }
        columns = new ArrayList<>();
        for (Part p : l.joints) {
            if (p.kind == 0) {
                columns.add(2 * p.number);
                columns.add(2 * p.number + 1);
            }
        }
        reduced = new long[l.bars.size()][columns.size()];
        for (Part bar : l.bars) {
            Part a = l.joints.get(bar.a);
            Part b = l.joints.get(bar.b);
            long[] wide = new long[48];
            wide[2 * bar.a] = a.a - b.a;
            wide[2 * bar.a + 1] = a.b - b.b;
            wide[2 * bar.b] = b.a - a.a;
            wide[2 * bar.b + 1] = b.b - a.b;
            for (int c = 0; c < columns.size(); c++) {
                reduced[bar.number][c] = Math.floorMod(wide[columns.get(c)], P);
            }
        }
        leads = new ArrayList<>();
        for (int c = 0; c < columns.size(); c++) {
            lead(c);
        }
    }

    private void lead(int c) {
        for (int r = leads.size(); r < reduced.length; r++) {
            if (reduced[r][c] == 0) {
                continue;
            }
            long[] top = reduced[r];
            reduced[r] = reduced[leads.size()];
            reduced[leads.size()] = top;
            long inverse = BigInteger.valueOf(top[c]).modInverse(BigInteger.valueOf(P)).longValue();
            for (int i = 0; i < top.length; i++) {
                top[i] = top[i] * inverse % P;
            }
            for (long[] other : reduced) {
                long times = other[c];
                for (int i = 0; i < top.length && other != top; i++) {
                    other[i] = Math.floorMod(other[i] - times * top[i], P);
                }
            }
            leads.add(c);
            return;
        }
    }

    long rank(int what) {
        reduce();
        return what == 0 ? leads.size() : what == 1 ? columns.size() - leads.size()
            : what == 2 ? reduced.length - leads.size() : BAD;
    }

    long motion(int k, int joint, int axis) {
        reduce();
        if (k < 0 || k >= columns.size() - leads.size() || !in(joint, l.joints) || axis < 0 || axis > 1) {
            return BAD;
        }
        List<Integer> free = new ArrayList<>();
        for (int c = 0; c < columns.size(); c++) {
            if (!leads.contains(c)) {
                free.add(c);
            }
        }
        int c = columns.indexOf(2 * joint + axis);
        if (c < 0) {
            return 0;
        }
        if (free.contains(c)) {
            return c == free.get(k) ? 1 : 0;
        }
        return (P - reduced[leads.indexOf(c)][free.get(k)]) % P;
    }

    // ---- turning

    private List<int[]> sequence() {
        List<int[]> sequence = new ArrayList<>();
        List<Integer> there = new ArrayList<>(grounds());
        there.add(l.driven);
        for (int j = 0; j < l.joints.size(); j++) {
            if (there.contains(j)) {
                continue;
            }
            List<Integer> others = new ArrayList<>();
            for (Part bar : l.bars) {
                int other = bar.a == j ? bar.b : bar.b == j ? bar.a : -1;
                if (there.contains(other)) {
                    others.add(other);
                }
            }
            if (others.size() >= 2) {
                sequence.add(new int[] {j, others.get(0), others.get(1)});
                there.add(j);
                j = -1;
            }
        }
        return sequence;
    }

    private long side(int[] s) {
        Part p = l.joints.get(s[0]);
        Part a = l.joints.get(s[1]);
        Part b = l.joints.get(s[2]);
        long across = (long) (b.a - a.a) * (p.b - a.b) - (long) (b.b - a.b) * (p.a - a.a);
        return (across >= 0 ? 1 : -1) * (flips[s[0]] % 2 == 0 ? 1 : -1);
    }

    private static BigInteger big(long n) {
        return BigInteger.valueOf(n);
    }

    private static BigInteger down(BigInteger a, BigInteger b) {
        BigInteger[] q = a.divideAndRemainder(b);
        return q[1].signum() != 0 && q[1].signum() != b.signum() ? q[0].subtract(BigInteger.ONE) : q[0];
    }

    /** Of each JOINT x, y and why it is not placed. */
    private long[][] placed(int step) {
        long[][] at = new long[l.joints.size()][3];
        for (Part p : l.joints) {
            at[p.number] = p.kind == 1 ? new long[] {1024L * p.a, 1024L * p.b, 0} : new long[] {0, 0, 1};
        }
        long m = step % 64;
        long c = Math.floorDiv(65536 * (4096 - m * m), 4096 + m * m);
        long d = Math.floorDiv(8388608 * m, 4096 + m * m);
        for (int i = 64; i <= step; i += 64) {
            long was = c;
            c = -d;
            d = was;
        }
        Part about = l.joints.get(l.about);
        long u = l.joints.get(l.driven).a - about.a;
        long v = l.joints.get(l.driven).b - about.b;
        at[l.driven] = new long[] {at[l.about][0] + Math.floorDiv(c * u - d * v, 64L),
            at[l.about][1] + Math.floorDiv(d * u + c * v, 64L), 0};
        for (int[] s : sequence()) {
            at[s[0]] = hung(s, at[s[1]], at[s[2]]);
        }
        return at;
    }

    private BigInteger square(int i, int j) {
        Part p = l.joints.get(i);
        Part q = l.joints.get(j);
        return big((long) (p.a - q.a) * (p.a - q.a) + (long) (p.b - q.b) * (p.b - q.b)).shiftLeft(20);
    }

    private long[] hung(int[] s, long[] a, long[] b) {
        if (a[2] != 0 || b[2] != 0) {
            return new long[] {0, 0, 3};
        }
        long[] none = {0, 0, 2};
        BigInteger p = square(s[0], s[1]);
        BigInteger q = square(s[0], s[2]);
        BigInteger w = big(b[0] - a[0]);
        BigInteger z = big(b[1] - a[1]);
        BigInteger dd = w.multiply(w).add(z.multiply(z));
        if (dd.compareTo(big(1 << 20)) < 0) {
            return none;
        }
        BigInteger u = down(p.subtract(q).add(dd).multiply(big(65536)), dd.multiply(big(2)));
        if (u.abs().compareTo(big(1 << 28)) > 0) {
            return none;
        }
        BigInteger rest = down(p.shiftLeft(32), dd).subtract(u.multiply(u));
        if (rest.signum() < 0) {
            return none;
        }
        BigInteger v = rest.sqrt().multiply(big(side(s)));
        BigInteger one = big(65536);
        return new long[] {a[0] + down(u.multiply(w).subtract(v.multiply(z)), one).longValueExact(),
            a[1] + down(u.multiply(z).add(v.multiply(w)), one).longValueExact(), 0};
    }

    long pose(int step) {
        if (step < 0 || step > 255) {
            return BAD;
        }
        if (l.driven == NONE) {
            return STATE;
        }
        pose = placed(step);
        return Arrays.stream(pose).filter(at -> at[2] == 0).count();
    }

    long at(int joint, int axis) {
        if (!in(joint, l.joints) || axis < 0 || axis > 1) {
            return BAD;
        }
        return pose == null ? STATE : pose[joint][2] != 0 ? NONE : pose[joint][axis];
    }

    long why(int joint) {
        return !in(joint, l.joints) ? BAD : pose == null ? STATE : pose[joint][2];
    }

    long order(int k, int what) {
        if (what < 0 || what > 2) {
            return BAD;
        }
        if (l.driven == NONE) {
            return STATE;
        }
        List<int[]> sequence = sequence();
        return k < 0 || k >= sequence.size() ? NONE : sequence.get(k)[what];
    }

    long flip(int joint) {
        if (!in(joint, l.joints)) {
            return BAD;
        }
        if (l.driven == NONE) {
            return STATE;
        }
        for (int[] s : sequence()) {
            if (s[0] == joint) {
                flips[joint]++;
                return side(s);
            }
        }
        return STATE;
    }

    long trace(int joint) {
        if (!in(joint, l.joints)) {
            return BAD;
        }
        if (l.driven == NONE) {
            return STATE;
        }
        curve = new long[256][];
        for (int i = 0; i < 256; i++) {
            curve[i] = placed(i)[joint];
        }
        return Arrays.stream(curve).filter(at -> at[2] == 0).count();
    }

    long curve(int step, int axis) {
        if (step < 0 || step > 255 || axis < 0 || axis > 1) {
            return BAD;
        }
        return curve == null ? STATE : curve[step][2] != 0 ? NONE : curve[step][axis];
    }

    long told(int what) {
        if (what < 0 || what > 4) {
            return BAD;
        }
        if (curve == null) {
            return STATE;
        }
        int begins = 0;
        int best = NONE;
        for (int i = 0; i < 256; i++) {
            if (curve[i][2] != 0) {
                continue;
            }
            begins += curve[(i + 255) % 256][2] != 0 ? 1 : 0;
            int axis = what > 2 ? 1 : 0;
            int way = what % 2 == 1 ? -1 : 1;
            if (best == NONE || way * curve[i][axis] > way * curve[best][axis]) {
                best = i;
            }
        }
        return what == 0 ? begins : best;
    }

    // ---- wheels, four bars

    private static final BigInteger GREATEST = BigInteger.TEN.pow(12);

    /** Upper and lower number, of a GREAT one 0 and 0, of one that is not reached nothing. */
    private BigInteger[][] ratios(int a) {
        BigInteger[][] r = new BigInteger[l.wheels.size()][];
        r[a] = new BigInteger[] {BigInteger.ONE, BigInteger.ONE};
        for (int i = 0; i < l.couplings.size(); i++) {
            Part c = l.couplings.get(i);
            if ((r[c.a] == null) == (r[c.b] == null)) {
                continue;
            }
            int from = r[c.a] != null ? c.a : c.b;
            int to = c.a + c.b - from;
            r[to] = carried(c.kind, from, to, r[from]);
            if (r[to][0].abs().compareTo(GREATEST) > 0 || r[to][1].compareTo(GREATEST) > 0) {
                r[to] = new BigInteger[] {BigInteger.ZERO, BigInteger.ZERO};
            }
            i = -1;
        }
        return r;
    }

    private BigInteger[] carried(int kind, int from, int to, BigInteger[] r) {
        if (kind == 6 || r[1].signum() == 0) {
            return r;
        }
        BigInteger up = r[0].multiply(big(l.wheels.get(from).b * (kind == 4 ? -1 : 1)));
        BigInteger low = r[1].multiply(big(l.wheels.get(to).b));
        BigInteger g = up.gcd(low);
        return new BigInteger[] {up.divide(g), low.divide(g)};
    }

    long ratio(int a, int b, int what) {
        if (!in(a, l.wheels) || !in(b, l.wheels) || what < 0 || what > 1) {
            return BAD;
        }
        BigInteger[] r = ratios(a)[b];
        return r == null ? NONE : r[what].longValueExact();
    }

    long lock() {
        for (Part c : l.couplings) {
            int least = 0;
            while (ratios(least)[c.a] == null) {
                least++;
            }
            BigInteger[] a = ratios(least)[c.a];
            BigInteger[] b = ratios(least)[c.b];
            if (a[1].signum() != 0 && b[1].signum() != 0 && !Arrays.equals(carried(c.kind, c.a, c.b, a), b)) {
                return c.number;
            }
        }
        return NONE;
    }

    static long fourBars(int ground, int input, int coupler, int output) {
        int[] bars = {ground, input, coupler, output};
        int[] sorted = bars.clone();
        Arrays.sort(sorted);
        if (sorted[0] < 1 || sorted[3] > 10000) {
            return BAD;
        }
        if (sorted[3] >= sorted[0] + sorted[1] + sorted[2]) {
            return 0;
        }
        int more = sorted[0] + sorted[3] - sorted[1] - sorted[2];
        if (more >= 0) {
            return more > 0 ? 1 : 2;
        }
        int i = 0;
        while (bars[i] != sorted[0]) {
            i++;
        }
        return 3 + i;
    }

    // ---- parts asked: classes, as the document's words have them

    private interface Moves {
        default int freedom(List<Integer> t) {
            t.add(10);
            return 0;
        }

        default int loss(List<Integer> t) {
            t.add(30);
            return 1000 / freedom(t);
        }
    }

    private interface Weighs {
        default int mass(List<Integer> t) {
            t.add(20);
            return 1;
        }
    }

    private static class Thing implements Moves, Weighs {
        int size;
    }

    private static class Pin extends Thing {
        @Override public int freedom(List<Integer> t) {
            t.add(11);
            return 2;
        }
    }

    private static class Ground extends Pin {
        @Override public int freedom(List<Integer> t) {
            t.add(12);
            return super.freedom(t) - 2;
        }

        @Override public int loss(List<Integer> t) {
            t.add(31);
            return mass(t) + super.loss(t);
        }
    }

    private static class Bar extends Thing {
        @Override public int freedom(List<Integer> t) {
            t.add(13);
            return super.freedom(t) - 1;
        }

        @Override public int mass(List<Integer> t) {
            t.add(21);
            return size;
        }
    }

    private static class Wheel extends Thing {
        @Override public int freedom(List<Integer> t) {
            t.add(14);
            return 1;
        }

        @Override public int mass(List<Integer> t) {
            t.add(22);
            return size;
        }
    }

    private static class Mesh extends Thing {
        @Override public int freedom(List<Integer> t) {
            t.add(15);
            return super.freedom(t) - 1;
        }
    }

    private static class Belt extends Mesh {
        @Override public int mass(List<Integer> t) {
            t.add(23);
            return super.mass(t) + 5;
        }
    }

    private static class Shaft extends Belt {
        @Override public int loss(List<Integer> t) {
            t.add(32);
            return super.mass(t) * 3;
        }
    }

    private Thing thing(Part p) {
        Thing[] all = {new Pin(), new Ground(), new Bar(), new Wheel(), new Mesh(), new Belt(), new Shaft()};
        Thing thing = all[p.kind];
        if (p.kind == 2) {
            thing.size = square(p.a, p.b).shiftRight(20).sqrt().intValueExact();
        }
        if (p.kind == 3) {
            thing.size = p.b;
        }
        return thing;
    }

    private long found(int number) {
        status = number;
        return -1000010 - number;
    }

    private long fine(long answer) {
        status = 0;
        return answer;
    }

    long ask(int part, int what) {
        if (!in(part, l.parts) || what < 0 || what > 2) {
            return BAD;
        }
        trace = new ArrayList<>();
        Thing thing = thing(l.parts.get(part));
        try {
            return fine(what == 0 ? thing.freedom(trace) : what == 1 ? thing.mass(trace) : thing.loss(trace));
        } catch (ArithmeticException e) {
            return found(5);
        }
    }

    long trail(int i) {
        return i >= 0 && i < Math.min(16, trace.size()) ? trace.get(i) : NONE;
    }

    private boolean isOf(int part, int kind) {
        Class<?>[] all = {Pin.class, Ground.class, Bar.class, Wheel.class, Mesh.class, Belt.class, Shaft.class};
        return all[kind].isInstance(thing(l.parts.get(part)));
    }

    long is(int part, int kind) {
        return !in(part, l.parts) || kind < 0 || kind > 6 ? BAD : isOf(part, kind) ? 1 : 0;
    }

    long as(int part, int kind) {
        if (!in(part, l.parts) || kind < 0 || kind > 6) {
            return BAD;
        }
        return isOf(part, kind) ? fine(l.parts.get(part).number) : found(3);
    }

    // ---- rows

    long lay(int row, int lane, int n) {
        if (row < 0 || row > 7 || lane < 0 || lane > 3 || n > 300) {
            return BAD;
        }
        if (n < 0) {
            return found(4);
        }
        lanes[row] = lane;
        rows[row] = new long[n];
        return fine(n);
    }

    long drop(int row) {
        if (row < 0 || row > 7) {
            return BAD;
        }
        if (rows[row] == null) {
            return found(1);
        }
        long had = rows[row].length;
        rows[row] = null;
        return fine(had);
    }

    long put(int row, int i, long v) {
        if (row < 0 || row > 7) {
            return BAD;
        }
        if (rows[row] == null) {
            return found(1);
        }
        if (i < 0 || i >= rows[row].length) {
            return found(2);
        }
        int cut = 64 - (8 << lanes[row]);
        rows[row][i] = v << cut >> cut;
        return fine(rows[row][i]);
    }

    long get(int row, int i) {
        if (row < 0 || row > 7) {
            return BAD;
        }
        if (rows[row] == null) {
            return found(1);
        }
        return i < 0 || i >= rows[row].length ? found(2) : fine(rows[row][i]);
    }

    long move(int a, int i, int b, int j, int n) {
        if (a < 0 || a > 7 || b < 0 || b > 7) {
            return BAD;
        }
        if (rows[a] == null || rows[b] == null) {
            return found(1);
        }
        if (lanes[a] != lanes[b]) {
            return found(6);
        }
        try {
            System.arraycopy(rows[a], i, rows[b], j, n);
        } catch (IndexOutOfBoundsException e) {
            return found(2);
        }
        return fine(n);
    }

    long keep(int row, int axis) {
        if (row < 0 || row > 7 || axis < 0 || axis > 1) {
            return BAD;
        }
        if (curve == null) {
            return STATE;
        }
        if (rows[row] == null) {
            return found(1);
        }
        int n = 0;
        while (n < 256 && n < rows[row].length) {
            put(row, n, curve[n][2] == 0 ? curve[n][axis] : 0);
            n++;
        }
        return fine(n);
    }

    long count(int what) {
        long clusters = 0;
        for (int i = 0; i < l.bars.size() && what == 7; i++) {
            clusters += cluster(i) == i ? 1 : 0;
        }
        long there = Arrays.stream(rows).filter(r -> r != null).count();
        long[] all = {l.joints.size(), grounds().size(), l.bars.size(), l.wheels.size(), l.couplings.size(),
            l.parts.size(), ties(grounds()).size(), clusters, tape.length(), there, l.driven, l.about};
        return what < 0 || what > 11 ? BAD : all[what];
    }

    long status() {
        return status;
    }

    long digest() {
        long h = 17;
        for (int i = 0; i < l.parts.size(); i++) {
            h = 31 * h + part(i, 0);
            h = 31 * h + part(i, 2);
            h = 31 * h + part(i, 3);
        }
        for (int i = 0; i < 8; i++) {
            h = 31 * h + (rows[i] == null ? 0 : lanes[i] + 1);
            for (int k = 0; rows[i] != null && k < rows[i].length; k++) {
                h = 31 * h + rows[i][k];
            }
        }
        return h;
    }
}
