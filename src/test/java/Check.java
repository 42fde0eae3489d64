import java.util.ArrayList;
import java.util.List;

/** What the tests share: answers held against those that are due, sentence by sentence. */
final class Check {
    private static final int FIRST_FINDING = -1000011, LAST_FINDING = -1000016;
    private int asked;
    private int wrong;
    private int sentences;
    private String sentence = "";
    private int askedOfSentence = 1;
    private Desk viewed;
    private int callsLeft;
    private List<String> view;

    /** The sentence of the document that what follows is about; one without an answer is wrong. */
    void on(String words) {
        closeSentence();
        sentence = words;
        sentences++;
        askedOfSentence = 0;
    }

    void due(String call, long got, long want) {
        asked++;
        askedOfSentence++;
        if (got != want) {
            fail(call + " answered " + got + ", due is " + want);
        }
    }

    void holds(String what, boolean isSo) {
        due(what, isSo ? 1 : 0, 1);
    }

    /** A call that is refused, or found: nothing but status() is another one then, and that as is due. */
    void refused(String call, Desk desk, Desk.Call made, long due) {
        Desk one = desk.again();
        int status = desk.again().status();
        List<String> before = viewOf(desk);
        due(call, one.call(made), due);
        boolean isFound = due <= FIRST_FINDING && due >= LAST_FINDING;
        due("status() behind " + call, one.again().status(), isFound ? FIRST_FINDING + 1 - due : status);
        same("behind " + call, before, View.of(one));
    }

    /** Many refusals are tried on one desk: what it shows is looked at once. */
    private List<String> viewOf(Desk desk) {
        if (desk != viewed || desk.callsLeft() != callsLeft) {
            viewed = desk;
            callsLeft = desk.callsLeft();
            view = View.of(desk);
        }
        return view;
    }

    /** What could be seen, line by line. */
    void same(String when, List<String> before, List<String> after) {
        List<String> changed = new ArrayList<>();
        for (int i = 0; i < Math.max(before.size(), after.size()); i++) {
            String was = i < before.size() ? before.get(i) : "nothing";
            String is = i < after.size() ? after.get(i) : "nothing";
            if (!was.equals(is)) {
                changed.add(was + ", now " + is);
            }
        }
        due("changes " + when + (changed.isEmpty() ? "" : ", the first: " + changed.get(0)), changed.size(), 0);
    }

    /** Ends the test's program, with 1 if an answer was wrong or none was asked. */
    void end() {
        closeSentence();
        System.out.println(asked + " answers" + (sentences == 0 ? "" : " on " + sentences + " sentences") + ", " + wrong + " wrong");
        if (wrong != 0 || asked == 0) {
            System.exit(1);
        }
    }

    private void closeSentence() {
        if (askedOfSentence == 0) {
            fail("nothing was asked");
        }
    }

    private void fail(String words) {
        wrong++;
        if (wrong <= 40) {
            System.out.println((sentence.isEmpty() ? "" : sentence + ": ") + words);
        }
    }
}
