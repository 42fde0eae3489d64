/** The edges that 'What it is' and 'Terms' name: which refusal comes first, what a refusal leaves. */
public final class TermsEdgesTest {
    private static final int BAD = LinkageCurves.BAD, STATE = LinkageCurves.STATE, FULL = LinkageCurves.FULL;
    private static final int NULL = -1000011, PLACE = -1000012, KIND = -1000013, SIZE = -1000014, NOUGHT = -1000015,
        STORE = -1000016;
    private static final Check CHECK = new Check();

    public static void main(String[] args) {
        lastCall();
        badAheadOfState();
        badAheadOfFull();
        badAheadOfFindings();
        stateAheadOfFindings();
        firstInTime();
        numbersOfFindings();
        refusedTwice();
        CHECK.end();
    }

    private static void lastCall() {
        CHECK.on("'at most 512 calls': the last one is answered, too");
        Desk x = new Desk();
        x.lay(0, 3, 300);
        for (int i = 0; i < 510; i++) {
            x.put(0, i % 300, i);
        }
        CHECK.due("calls left", x.callsLeft(), 1);
        CHECK.due("get, the 512th call", x.get(0, 209), 509);
        Desk y = new Desk();
        for (int i = 0; i < 509; i++) {
            y.feed(2, 0);
        }
        y.read();
        y.lay(7, 0, 1);
        CHECK.due("drop, the 512th call", y.drop(7), 1);
    }

    private static void badAheadOfState() {
        CHECK.on("'the first of these that fits: BAD .., STATE'");
        Desk none = Rich.undriven();
        CHECK.refused("pose(256), none DRIVEN", none, y -> y.pose(256), BAD);
        CHECK.refused("order(0, 3), none DRIVEN", none, y -> y.order(0, 3), BAD);
        CHECK.refused("flip(6), none DRIVEN", none, y -> y.flip(Rich.JOINTS), BAD);
        CHECK.refused("trace(6), none DRIVEN", none, y -> y.trace(Rich.JOINTS), BAD);
        Desk still = Rich.unturned();
        CHECK.refused("at(6, 0), no pose()", still, y -> y.at(Rich.JOINTS, 0), BAD);
        CHECK.refused("at(0, 2), no pose()", still, y -> y.at(0, 2), BAD);
        CHECK.refused("why(6), no pose()", still, y -> y.why(Rich.JOINTS), BAD);
        CHECK.refused("curve(256, 0), no CURVE", still, y -> y.curve(256, 0), BAD);
        CHECK.refused("curve(0, 2), no CURVE", still, y -> y.curve(0, 2), BAD);
        CHECK.refused("told(5), no CURVE", still, y -> y.told(5), BAD);
        CHECK.refused("keep(8, 0), no CURVE", still, y -> y.keep(8, 0), BAD);
        CHECK.refused("keep(0, 2), no CURVE", still, y -> y.keep(0, 2), BAD);
    }

    private static void badAheadOfFull() {
        CHECK.on("'the first of these that fits: BAD .., FULL'");
        CHECK.refused("feed(9) at 1200", Rich.taped(1200), y -> y.feed(9, 0), BAD);
        CHECK.refused("feed(0) at 1200", Rich.taped(1200), y -> y.feed(0, 0), BAD);
    }

    private static void badAheadOfFindings() {
        CHECK.on("'BAD .., then FINDINGS'");
        Desk x = Rich.turned();
        CHECK.refused("ask: what, ahead of NOUGHT", x, y -> y.ask(Rich.GROUND, 3), BAD);
        CHECK.refused("as: KIND 7, ahead of KIND", x, y -> y.as(Rich.GROUND, 7), BAD);
        CHECK.refused("lay: ROW, ahead of SIZE", x, y -> y.lay(8, 0, -1), BAD);
        CHECK.refused("lay: LANE, ahead of SIZE", x, y -> y.lay(0, 4, -1), BAD);
        CHECK.refused("put: ROW, ahead of PLACE", x, y -> y.put(8, -1, 0), BAD);
        CHECK.refused("get: ROW, ahead of PLACE", x, y -> y.get(8, -1), BAD);
        CHECK.refused("move: the second ROW, ahead of NULL", x, y -> y.move(Rich.MISSING, 0, 8, 0, 0), BAD);
        CHECK.refused("move: the first ROW, ahead of NULL", x, y -> y.move(8, 0, Rich.MISSING, 0, 0), BAD);
        CHECK.refused("move: ROW, ahead of PLACE", x, y -> y.move(0, -1, 8, -1, -1), BAD);
        CHECK.refused("keep: axis, ahead of NULL", x, y -> y.keep(Rich.MISSING, 2), BAD);
    }

    private static void stateAheadOfFindings() {
        CHECK.on("'STATE .., then FINDINGS'");
        CHECK.refused("keep: no CURVE, ahead of NULL", Rich.unturned(), y -> y.keep(Rich.MISSING, 0), STATE);
        CHECK.refused("keep: none DRIVEN, ahead of NULL", Rich.undriven(), y -> y.keep(Rich.MISSING, 1), STATE);
    }

    private static void firstInTime() {
        CHECK.on("'FINDINGS, of several the first in time'");
        Desk x = Rich.turned();
        CHECK.refused("put: NULL, ahead of PLACE", x, y -> y.put(Rich.MISSING, -1, 0), NULL);
        CHECK.refused("get: NULL, ahead of PLACE", x, y -> y.get(Rich.MISSING, 300), NULL);
        CHECK.refused("move: NULL of a, ahead of PLACE", x, y -> y.move(Rich.MISSING, -1, 0, -1, -1), NULL);
        CHECK.refused("move: NULL of b, ahead of PLACE", x, y -> y.move(0, -1, Rich.MISSING, -1, -1), NULL);
        CHECK.refused("move: STORE, ahead of PLACE", x, y -> y.move(0, -1, 1, -1, -1), STORE);
        CHECK.refused("move: STORE, ahead of PLACE beyond an end", x, y -> y.move(0, 4, 1, 0, 1), STORE);
    }

    private static void numbersOfFindings() {
        CHECK.on("'-1000010 less 1 NULL'");
        Desk x = Rich.turned();
        CHECK.refused("drop of a missing ROW", x, y -> y.drop(Rich.MISSING), NULL);
        CHECK.on("'2 PLACE'");
        CHECK.refused("get behind the last ITEM", x, y -> y.get(0, 4), PLACE);
        CHECK.on("'3 KIND'");
        x.get(0, 0);
        CHECK.refused("a PIN as a GROUND", x, y -> y.as(Rich.PIN, 1), KIND);
        CHECK.on("'4 SIZE (fewer than none)'");
        CHECK.refused("lay of -1", x, y -> y.lay(0, 0, -1), SIZE);
        CHECK.on("'5 NOUGHT (by 0)'");
        // Not by refused(): promise 23 has THE TRACE emptied, and BODIES begin.
        Desk one = x.again();
        CHECK.due("LOSS of a GROUND", one.ask(Rich.GROUND, 2), NOUGHT);
        CHECK.due("its number", one.status(), 5);
        CHECK.on("'6 STORE (ROWS of two LANES)'");
        CHECK.refused("move of none between two LANES", x, y -> y.move(0, 0, 1, 0, 0), STORE);
    }

    private static void refusedTwice() {
        CHECK.on("'What is refused, or found, changes nothing but status()': it is refused again, alike");
        Desk x = Rich.taped(1196);
        CHECK.due("feed(5) at 1196", x.feed(5, 0), FULL);
        CHECK.due("feed(5) again", x.feed(5, 0), FULL);
        CHECK.due("feed(4)", x.feed(4, 0x20202020), 1200);
        CHECK.due("a FULL one leaves status()", x.status(), 3);
        for (int i = 0; i < 2; i++) {
            CHECK.due("lay of -1", x.lay(0, 0, -1), SIZE);
            CHECK.due("drop of a missing ROW", x.drop(7), NULL);
            CHECK.due("pose(-1)", x.pose(-1), BAD);
            CHECK.due("BAD leaves status()", x.status(), 1);
        }
    }
}
