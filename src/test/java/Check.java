/** What the tests share: texts fed to a desk, answers held against those that are due. */
final class Check {
    private int asked;
    private int wrong;

    void due(String call, long got, long want) {
        asked++;
        if (got != want) {
            wrong++;
            if (wrong <= 40) {
                System.out.println(call + " answered " + got + ", due is " + want);
            }
        }
    }

    void holds(String what, boolean isSo) {
        due(what, isSo ? 1 : 0, 1);
    }

    /** Ends the test's program, with 1 if an answer was wrong or none was asked. */
    void end() {
        System.out.println(asked + " answers, " + wrong + " wrong");
        if (wrong != 0 || asked == 0) {
            System.exit(1);
        }
    }

    static void feed(LinkageCurves x, String text) {
        for (int i = 0; i < text.length(); i += 8) {
            int n = Math.min(8, text.length() - i);
            x.feed(n, packed(text.substring(i, i + n)));
        }
    }

    static long packed(String text) {
        long bytes = 0;
        for (int i = text.length() - 1; i >= 0; i--) {
            bytes = bytes << 8 | text.charAt(i) & 255;
        }
        return bytes;
    }

    static int read(LinkageCurves x, String text) {
        feed(x, text);
        return x.read();
    }

    /** A new desk with a text that has no FAULT. */
    static LinkageCurves desk(String text) {
        LinkageCurves x = new LinkageCurves();
        int answer = read(x, text);
        if (answer < 0) {
            throw new IllegalStateException("the text has FAULT " + (-10 - answer) + " at " + x.place() + ": " + text);
        }
        return x;
    }
}
