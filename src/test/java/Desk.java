import java.util.ArrayList;
import java.util.List;

/**
 * A desk whose calls are written down: so no test asks one object for more than the 512 calls that
 * are promised, and a run can be made again on a new object, to ask that for more.
 */
final class Desk {
    static final int MOST_CALLS = 512;

    interface Call {
        long on(LinkageCurves x);
    }

    private final LinkageCurves x = new LinkageCurves();
    private final List<Call> calls = new ArrayList<>();

    /** A new desk with a text that has no FAULT. */
    static Desk of(String text) {
        Desk desk = new Desk();
        int answer = desk.read(text);
        if (answer < 0) {
            throw new IllegalStateException("the text has FAULT " + (-10 - answer) + " at " + desk.place() + ": " + text);
        }
        return desk;
    }

    long call(Call call) {
        if (calls.size() == MOST_CALLS) {
            throw new IllegalStateException("a test asks for more than " + MOST_CALLS + " calls");
        }
        calls.add(call);
        return call.on(x);
    }

    /** A new object on which all calls of this one were made. */
    Desk again() {
        Desk desk = new Desk();
        for (Call call : calls) {
            desk.call(call);
        }
        return desk;
    }

    int callsLeft() {
        return MOST_CALLS - calls.size();
    }

    /** Eight bytes a call: how long THE TAPE is then. */
    int feed(String text) {
        int length = 0;
        for (int i = 0; i < text.length(); i += 8) {
            String piece = text.substring(i, Math.min(i + 8, text.length()));
            length = feed(piece.length(), packed(piece));
        }
        return length;
    }

    int read(String text) {
        feed(text);
        return read();
    }

    /** A text of up to eight bytes as a number, the first one lowest. */
    static long packed(String text) {
        long bytes = 0;
        for (int i = text.length() - 1; i >= 0; i--) {
            bytes = bytes << 8 | text.charAt(i) & 255;
        }
        return bytes;
    }

    private int number(Call call) {
        return (int) call(call);
    }

    // ---- the face

    int feed(int n, long bytes) {
        return number(y -> y.feed(n, bytes));
    }

    int read() {
        return number(LinkageCurves::read);
    }

    int place() {
        return number(LinkageCurves::place);
    }

    int part(int part, int what) {
        return number(y -> y.part(part, what));
    }

    int needed(int bar) {
        return number(y -> y.needed(bar));
    }

    int together(int a, int b) {
        return number(y -> y.together(a, b));
    }

    int cluster(int bar) {
        return number(y -> y.cluster(bar));
    }

    int mobility() {
        return number(LinkageCurves::mobility);
    }

    int rank(int what) {
        return number(y -> y.rank(what));
    }

    int motion(int k, int joint, int axis) {
        return number(y -> y.motion(k, joint, axis));
    }

    int pose(int step) {
        return number(y -> y.pose(step));
    }

    long at(int joint, int axis) {
        return call(y -> y.at(joint, axis));
    }

    int why(int joint) {
        return number(y -> y.why(joint));
    }

    int order(int k, int what) {
        return number(y -> y.order(k, what));
    }

    int flip(int joint) {
        return number(y -> y.flip(joint));
    }

    int trace(int joint) {
        return number(y -> y.trace(joint));
    }

    long curve(int step, int axis) {
        return call(y -> y.curve(step, axis));
    }

    int told(int what) {
        return number(y -> y.told(what));
    }

    long ratio(int a, int b, int what) {
        return call(y -> y.ratio(a, b, what));
    }

    int lock() {
        return number(LinkageCurves::lock);
    }

    int fourBars(int ground, int input, int coupler, int output) {
        return number(y -> y.fourBars(ground, input, coupler, output));
    }

    int ask(int part, int what) {
        return number(y -> y.ask(part, what));
    }

    int trail(int i) {
        return number(y -> y.trail(i));
    }

    int is(int part, int kind) {
        return number(y -> y.is(part, kind));
    }

    int as(int part, int kind) {
        return number(y -> y.as(part, kind));
    }

    int lay(int row, int lane, int n) {
        return number(y -> y.lay(row, lane, n));
    }

    int drop(int row) {
        return number(y -> y.drop(row));
    }

    long put(int row, int i, long v) {
        return call(y -> y.put(row, i, v));
    }

    long get(int row, int i) {
        return call(y -> y.get(row, i));
    }

    int move(int a, int i, int b, int j, int n) {
        return number(y -> y.move(a, i, b, j, n));
    }

    int keep(int row, int axis) {
        return number(y -> y.keep(row, axis));
    }

    int count(int what) {
        return number(y -> y.count(what));
    }

    int status() {
        return number(LinkageCurves::status);
    }

    long digest() {
        return call(LinkageCurves::digest);
    }
}
