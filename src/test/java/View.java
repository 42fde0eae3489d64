import java.util.ArrayList;
import java.util.List;

/**
 * All that a desk can tell but status(), a line for each answer. It is asked of other objects on
 * which the same calls were made, so the desk itself stays as it is, and within its calls.
 */
final class View {
    private final Desk shown;
    private final Desk counted;
    private Desk asked;
    private final List<String> lines = new ArrayList<>();

    private View(Desk shown) {
        this.shown = shown;
        this.counted = shown.again();
        this.asked = shown.again();
    }

    static List<String> of(Desk desk) {
        View view = new View(desk);
        view.text();
        view.counts();
        view.turning();
        view.wheels();
        view.parts();
        view.whatIsHidden();
        view.rows();
        return view.lines;
    }

    private void see(String call, Desk.Call query) {
        if (asked.callsLeft() == 0) {
            asked = shown.again();
        }
        lines.add(call + " = " + asked.call(query));
    }

    private int size(int what) {
        return counted.count(what);
    }

    private void text() {
        see("place", LinkageCurves::place);
        see("digest", LinkageCurves::digest);
        for (int i = 0; i < 12; i++) {
            int what = i;
            see("count " + what, y -> y.count(what));
        }
        int parts = size(5);
        for (int i = 0; i < 4 * parts; i++) {
            int part = i / 4;
            int what = i % 4;
            see("part " + part + " " + what, y -> y.part(part, what));
        }
    }

    private void counts() {
        int joints = size(0);
        see("mobility", LinkageCurves::mobility);
        int bars = size(2);
        for (int i = 0; i < bars; i++) {
            int bar = i;
            see("needed " + bar, y -> y.needed(bar));
            see("cluster " + bar, y -> y.cluster(bar));
        }
        for (int i = 0; i < joints * joints; i++) {
            int a = i / joints;
            int b = i % joints;
            see("together " + a + " " + b, y -> y.together(a, b));
        }
        for (int i = 0; i < 3; i++) {
            int what = i;
            see("rank " + what, y -> y.rank(what));
        }
        int motions = counted.rank(1);
        for (int i = 0; i < 2 * joints * motions; i++) {
            int k = i / (2 * joints);
            int joint = i / 2 % joints;
            int axis = i % 2;
            see("motion " + k + " " + joint + " " + axis, y -> y.motion(k, joint, axis));
        }
    }

    private void turning() {
        int joints = size(0);
        for (int i = 0; i < joints; i++) {
            int joint = i;
            see("at x " + joint, y -> y.at(joint, 0));
            see("at y " + joint, y -> y.at(joint, 1));
            see("why " + joint, y -> y.why(joint));
            for (int k = 0; k < 3; k++) {
                int what = k;
                see("order " + joint + " " + what, y -> y.order(joint, what));
            }
        }
        for (int i = 0; i < 5; i++) {
            int what = i;
            see("told " + what, y -> y.told(what));
        }
        int steps = counted.told(0) == LinkageCurves.STATE ? 1 : 256;
        for (int i = 0; i < steps; i++) {
            int step = i;
            see("curve x " + step, y -> y.curve(step, 0));
            see("curve y " + step, y -> y.curve(step, 1));
        }
    }

    private void wheels() {
        int wheels = size(3);
        see("lock", LinkageCurves::lock);
        for (int i = 0; i < wheels * wheels; i++) {
            int a = i / wheels;
            int b = i % wheels;
            see("ratio upper " + a + " " + b, y -> y.ratio(a, b, 0));
            see("ratio lower " + a + " " + b, y -> y.ratio(a, b, 1));
        }
    }

    private void parts() {
        for (int i = 0; i <= 16; i++) {
            int k = i;
            see("trail " + k, y -> y.trail(k));
        }
        int parts = size(5);
        for (int i = 0; i < 7 * parts; i++) {
            int part = i / 7;
            int kind = i % 7;
            see("is " + part + " " + kind, y -> y.is(part, kind));
        }
    }

    /** Only calls that change something show SIDES and THE TAPE. */
    private void whatIsHidden() {
        int joints = size(0);
        asked = shown.again();
        for (int i = 0; i < joints; i++) {
            int joint = i;
            see("flip " + joint, y -> y.flip(joint));
        }
        asked = shown.again();
        see("read", LinkageCurves::read);
        see("place behind read", LinkageCurves::place);
        see("digest behind read", LinkageCurves::digest);
    }

    private void rows() {
        Desk dropped = shown.again();
        asked = shown.again();
        for (int i = 0; i < 8; i++) {
            int row = i;
            int size = dropped.drop(row);
            lines.add("drop " + row + " = " + size);
            for (int k = 0; k < size; k++) {
                int item = k;
                see("get " + row + " " + item, y -> y.get(row, item));
            }
        }
    }
}
