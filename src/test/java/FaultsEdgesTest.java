/** The edges that '1 TEXTS' names: what is a TOKEN, how many and how far, and each FAULT from the first that has it. */
public final class FaultsEdgesTest {
    private static final int NONE = LinkageCurves.NONE;
    private static final String[] WORDS = {"ground", "joint", "bar", "chain", "frame", "wheel", "at", "mesh", "belt", "shaft",
        "drive", "about"};
    /** d and e are at one place. */
    private static final String JOINTS = "ground a 0 0;joint b 5 0;joint c 5 5;joint d 0 5;joint e 0 5;";
    private static final String WHEELS = JOINTS + "wheel u at a 10;wheel v at b 20;wheel w at a 30;";
    private static final Check CHECK = new Check();

    public static void main(String[] args) {
        bytes();
        between();
        letters();
        figures();
        words();
        wordsAreNoNames();
        statementsTaken();
        fewestNames();
        endOfTape();
        misplaced();
        toldAlready();
        noJoint();
        noWheel();
        bounds();
        teeth();
        mostJoints();
        mostWheels();
        mostBars();
        mostCouplings();
        mostOfAll();
        pairsOfBars();
        closingBars();
        pairsOfCouplings();
        drives();
        firstToken();
        leastFault();
        CHECK.end();
    }

    private static void fine(String text, int parts) {
        Desk x = new Desk();
        CHECK.due("read() of '" + text + "'", x.read(text), parts);
        CHECK.due("place() in '" + text + "'", x.place(), NONE);
        CHECK.due("PARTS of '" + text + "'", x.count(5), parts);
    }

    /** A text behind others, which have no FAULT: its own FAULT and where that is. */
    private static void fault(String before, String text, int number, int place) {
        Desk x = Desk.of("ground kept 7 8;");
        CHECK.due("read() of '" + text + "'", x.read(before + text), -10 - number);
        CHECK.due("place() in '" + text + "'", x.place() - before.length(), place);
        CHECK.due("PARTS stay behind '" + text + "'", x.count(5), 1);
        CHECK.due("TAPE behind '" + text + "'", x.count(8), 0);
    }

    private static void bytes() {
        CHECK.on("'any other byte is no TOKEN', FAULT '1 it is no TOKEN (its first byte)'");
        for (int b = 0; b < 256; b++) {
            String one = String.valueOf((char) b);
            boolean isBetween = b == 32 || b == 10;
            boolean isToken = b >= 'a' && b <= 'z' || b >= '0' && b <= '9' || b == ';';
            if (isBetween) {
                fine(one, 0);
            } else {
                fault("", one, isToken ? 2 : 1, 0);
                fault(JOINTS, " \n" + one + one, isToken ? 2 : 1, 2);
            }
        }
        CHECK.on("'the SIGN ;': each by itself");
        fault("", "joint a 0 0;;", 2, 12);
        fine("joint a 0 0;joint b 0 0 ; joint c 0 0\n;", 3);
    }

    private static void between() {
        CHECK.on("'bytes 32 and 10 between where one likes'");
        fine("\n\n  joint\n\n a   0\n0  ;\n ", 1);
        fine("joint a0 0;joint b 0-5;joint c-0-5;", 3);
        fault("", "joint\ta 0 0;", 1, 5);
        fault("", "joint a\r0 0;", 1, 7);
        fault("", "joint a 0\u000b0;", 1, 9);
        fault("", "joint a 0\u00a00;", 1, 9);
        CHECK.on("'bytes 32 and 10 between': none within a TOKEN");
        fault("", "jo int a 0 0;", 2, 0);
        fault("", "joint a b 0 0;", 2, 8);
        fault("", "joint a 1 0 0;", 2, 12);
        fault("", "joint a - 1 0;", 1, 8);
        CHECK.on("'TOKENS, each as long as can be'");
        fault("", "jointa 0 0;", 2, 0);
        fault("", "joint ab0 0;bar a b;", 4, 16);
        Desk x = Desk.of("joint a12-34;");
        CHECK.due("x of a12-34", x.part(0, 2), 12);
        CHECK.due("y of a12-34", x.part(0, 3), -34);
    }

    private static void letters() {
        CHECK.on("'rows of letters a .. z (one of more than 6 letters is no TOKEN)'");
        fine("joint a 0 0;joint z 0 0;joint az 0 0;joint abcdef 0 0;joint zzzzzz 0 0;joint aaaaaa 0 0;joint aaaaa 0 0;", 7);
        fault("", "joint abcdefg 0 0;", 1, 6);
        fault("", "joint zzzzzzz 0 0;", 1, 6);
        fault("", "joint " + "a".repeat(40) + " 0 0;", 1, 6);
        fault("", "grounds a 0 0;", 1, 0);
        fault("", "aground a 0 0;", 1, 0);
        fault("", "joint a` 0 0;", 1, 7);
        fault("", "joint a{ 0 0;", 1, 7);
        fault("", "joint aZ 0 0;", 1, 7);
        CHECK.on("NAMES: no two rows of letters are one NAME");
        fine("joint a 0 0;joint aa 0 0;joint aaa 0 0;joint b 0 0;joint ba 0 0;joint ab 0 0;joint za 0 0;joint az 0 0;", 8);
    }

    private static void figures() {
        CHECK.on("'rows of 1 to 4 figures, a - right ahead of them perhaps'");
        fine("joint a 0 9;joint b -1 -9;joint c 1000 0999;joint d -1000 -0999;joint e 0000 -0000;joint f -0 00;", 6);
        Desk x = Desk.of("joint a 0007 -0007;joint b -0 0000;joint c 0089 1000;");
        int[] due = {7, -7, 0, 0, 89, 1000};
        for (int i = 0; i < 6; i++) {
            CHECK.due("NUMBER " + i, x.part(i / 2, 2 + i % 2), due[i]);
        }
        CHECK.on("'(more figures, - alone: no TOKEN)'");
        fault("", "joint a 00000 0;", 1, 8);
        fault("", "joint a 10000 0;", 1, 8);
        fault("", "joint a 0 -00000;", 1, 10);
        fault("", "joint a 4294967296 0;", 1, 8);
        fault("", "joint a 0 18446744073709551616;", 1, 10);
        fault("", "joint a -", 1, 8);
        fault("", "joint a -;", 1, 8);
        fault("", "joint a -b 0;", 1, 8);
        fault("", "joint a --1 0;", 1, 8);
        fault("", "joint a 1- 0;", 1, 9);
        fault("", "joint a +1 0;", 1, 8);
        fault("", "joint a 1/ 0;", 1, 9);
        fault("", "joint a 1: 0;", 1, 9);
        fault("", "joint a 1.0 0;", 1, 9);
    }

    private static void words() {
        CHECK.on("'The WORDS are': each of them, and no shorter, no longer one");
        String[] texts = {"ground x 1 1;", "joint x 1 1;", "bar a b;", "chain a b;", "frame a b c;", "wheel x at a 9;", "mesh u v;",
            "belt u v;", "shaft u v;", "bar a b;drive b about a;"};
        int[] parts = {1, 1, 1, 1, 3, 1, 1, 1, 1, 1};
        for (int i = 0; i < texts.length; i++) {
            fine(WHEELS + texts[i], 8 + parts[i]);
        }
        for (String word : WORDS) {
            fault("", word.substring(0, word.length() - 1) + " x 1 1;", 2, 0);
            fault("", word + "s x 1 1;", word.length() == 6 ? 1 : 2, 0);
        }
        fault("", "at a 1 1;", 2, 0);
        fault("", "about a 1 1;", 2, 0);
    }

    private static void wordsAreNoNames() {
        CHECK.on("'which are no NAMES'");
        for (String word : WORDS) {
            fault("", "joint " + word + " 1 1;", 2, 6);
            fault("", "ground " + word + " 1 1;", 2, 7);
            fault(JOINTS, "wheel " + word + " at a 9;", 2, 6);
            fault(JOINTS, "bar a " + word + ";", 2, 6);
            fault(WHEELS, "mesh " + word + " v;", 2, 5);
            fine("joint " + word.charAt(0) + " 1 1;joint " + word.substring(1) + " 1 1;", 2);
        }
    }

    private static void statementsTaken() {
        CHECK.on("'A LINKAGE is any number of STATEMENTS': none, one, as many as fit");
        fine("", 0);
        fine("joint a 0 0;", 1);
        fine(WHEELS + "belt u v;".repeat(30), 38);
        CHECK.on("'chain NAME NAME [NAME ..] ;', 'frame NAME NAME NAME [NAME ..] ;'");
        fine(JOINTS + "chain a b;", 6);
        fine(JOINTS + "chain a b c d;", 8);
        fine(JOINTS + "chain a b c d a;", 9);
        fine(JOINTS + "frame a b c;", 8);
        fine(JOINTS + "frame a b c d;", 9);
        fine(JOINTS + "frame a b d c e;", 10);
    }

    private static void fewestNames() {
        CHECK.on("'2 it can't stand there': a ; behind too few NAMES");
        fault(JOINTS, "bar;", 2, 3);
        fault(JOINTS, "bar a;", 2, 5);
        fault(JOINTS, "chain;", 2, 5);
        fault(JOINTS, "chain a;", 2, 7);
        fault(JOINTS, "frame;", 2, 5);
        fault(JOINTS, "frame a;", 2, 7);
        fault(JOINTS, "frame a b;", 2, 9);
        fault(WHEELS, "mesh u;", 2, 6);
        fault(JOINTS, "bar a b;drive b;", 2, 15);
        fault(JOINTS, "bar a b;drive b about;", 2, 21);
        CHECK.on("'2 it can't stand there': a NAME too many");
        fault(JOINTS, "bar a b c;", 2, 8);
        fault(WHEELS, "mesh u v w;", 2, 9);
        fault(WHEELS, "belt u v u;", 2, 9);
        fault(WHEELS, "shaft u v u;", 2, 10);
        fault(JOINTS, "bar a b;drive b about a a;", 2, 24);
        fault("", "joint a 0 0 a;", 2, 12);
        fault(JOINTS, "wheel u at a 9 a;", 2, 15);
    }

    private static void endOfTape() {
        CHECK.on("'(the end: the TAPE's length)'");
        String[] texts = {"joint", "joint x", "joint x 0", "joint x 0 0", "ground", "bar", "bar a", "bar a b", "chain", "chain a",
            "chain a b", "chain a b c", "frame", "frame a", "frame a b", "frame a b c", "wheel", "wheel x", "wheel x at",
            "wheel x at a", "wheel x at a 9", "mesh", "mesh u", "mesh u v", "belt u v", "shaft u v", "bar a b;drive",
            "bar a b;drive b", "bar a b;drive b about", "bar a b;drive b about a"};
        for (String text : texts) {
            fault(WHEELS, text, 2, text.length());
            fault(WHEELS, text + " \n ", 2, text.length() + 3);
            fault(WHEELS, text + " !", 1, text.length() + 1);
        }
    }

    private static void misplaced() {
        CHECK.on("'2 it can't stand there': a TOKEN of another sort at each place");
        fault("", "a;", 2, 0);
        fault("", "7;", 2, 0);
        fault("", "joint 7 7 7;", 2, 6);
        fault("", "joint ; 7 7;", 2, 6);
        fault("", "joint a b 7;", 2, 8);
        fault("", "joint a ; 7;", 2, 8);
        fault("", "joint a 7 b;", 2, 10);
        fault("", "joint a 7;", 2, 9);
        fault("", "joint a 7 7 joint b 7 7;", 2, 12);
        fault(JOINTS, "bar 7 a;", 2, 4);
        fault(JOINTS, "bar a 7;", 2, 6);
        fault(JOINTS, "bar a b 7;", 2, 8);
        fault(JOINTS, "chain 7 a;", 2, 6);
        fault(JOINTS, "chain a b 7;", 2, 10);
        fault(JOINTS, "chain a b at;", 2, 10);
        fault(JOINTS, "frame a b 7;", 2, 10);
        fault(JOINTS, "frame a b c bar a b;", 2, 12);
        fault(JOINTS, "wheel 7 at a 9;", 2, 6);
        fault(JOINTS, "wheel u about a 9;", 2, 8);
        fault(JOINTS, "wheel u a 9;", 2, 8);
        fault(JOINTS, "wheel u at 9;", 2, 11);
        fault(JOINTS, "wheel u at a b;", 2, 13);
        fault(JOINTS, "wheel u at a;", 2, 12);
        fault(WHEELS, "mesh 7 u;", 2, 5);
        fault(WHEELS, "belt u 7;", 2, 7);
        fault(WHEELS, "shaft u v 7;", 2, 10);
        fault(JOINTS, "bar a b;drive 7 about a;", 2, 14);
        fault(JOINTS, "bar a b;drive b at a;", 2, 16);
        fault(JOINTS, "bar a b;drive b a;", 2, 16);
        fault(JOINTS, "bar a b;drive b about 7;", 2, 22);
        fault(JOINTS, "bar a b;drive b about a 7;", 2, 24);
    }

    private static void toldAlready() {
        CHECK.on("'3 a new NAME that is told already (JOINTS and WHEELS together)'");
        fault(WHEELS, "joint a 0 0;", 3, 6);
        fault(WHEELS, "joint e 0 0;", 3, 6);
        fault(WHEELS, "ground b 0 0;", 3, 7);
        fault(WHEELS, "joint u 0 0;", 3, 6);
        fault(WHEELS, "ground w 0 0;", 3, 7);
        fault(WHEELS, "wheel u at a 9;", 3, 6);
        fault(WHEELS, "wheel b at a 9;", 3, 6);
        fine(WHEELS + "joint f 0 0;wheel x at f 9;", 10);
        CHECK.on("'told already': by this text, not by one ahead of it");
        Desk x = Desk.of(WHEELS);
        CHECK.due("read() of the same text", x.read(WHEELS), 8);
        CHECK.due("read() of a text with a FAULT", x.read("joint p 0 0;joint p 0 0;"), -13);
        CHECK.due("its NAME is new again", x.read("joint p 0 0;"), 1);
    }

    private static void noJoint() {
        CHECK.on("'4 a NAME that is no JOINT (of bar, chain, frame, at, drive, about)'");
        for (String name : new String[] {"z", "u"}) {
            fault(WHEELS, "bar " + name + " a;", 4, 4);
            fault(WHEELS, "bar a " + name + ";", 4, 6);
            fault(WHEELS, "chain " + name + " a;", 4, 6);
            fault(WHEELS, "chain a " + name + ";", 4, 8);
            fault(WHEELS, "chain a b " + name + ";", 4, 10);
            fault(WHEELS, "frame " + name + " a b;", 4, 6);
            fault(WHEELS, "frame a " + name + " b;", 4, 8);
            fault(WHEELS, "frame a b " + name + ";", 4, 10);
            fault(WHEELS, "frame a b c " + name + ";", 4, 12);
            fault(WHEELS, "wheel x at " + name + " 9;", 4, 11);
            fault(WHEELS, "bar a b;drive " + name + " about a;", 4, 14);
            fault(WHEELS, "bar a b;drive b about " + name + ";", 4, 22);
        }
        CHECK.on("'4 a NAME that is no JOINT': one that comes later is none yet");
        fault("joint a 0 0;", "bar a b;joint b 1 1;", 4, 6);
        fault("joint a 0 0;", "wheel u at u 9;", 4, 11);
        Desk x = Desk.of(WHEELS);
        CHECK.due("one of the text ahead", x.read("joint y 0 0;bar y a;"), -14);
        CHECK.due("place()", x.place(), 18);
    }

    private static void noWheel() {
        CHECK.on("'4 .. no WHEEL (of COUPLINGS)'");
        for (String word : new String[] {"mesh", "belt", "shaft"}) {
            for (String name : new String[] {"z", "a"}) {
                fault(WHEELS, word + " " + name + " u;", 4, word.length() + 1);
                fault(WHEELS, word + " u " + name + ";", 4, word.length() + 3);
            }
        }
    }

    private static void bounds() {
        CHECK.on("'x, y (-1000 .. 1000)', '5 a NUMBER out of its bounds'");
        for (String word : new String[] {"joint", "ground"}) {
            int at = word.length() + 3;
            fine(word + " x 1000 1000;" + word + " y -1000 -1000;", 2);
            for (String far : new String[] {"1001", "-1001", "9999", "-9999"}) {
                fault("", word + " x " + far + " 0;", 5, at);
                fault("", word + " x 0 " + far + ";", 5, at + 2);
            }
        }
    }

    private static void teeth() {
        CHECK.on("'n TEETH (3 .. 200)', '5 a NUMBER out of its bounds'");
        fine(JOINTS + "wheel u at a 3;wheel v at a 200;wheel w at a 0003;", 8);
        for (String far : new String[] {"2", "201", "0", "-3", "-0", "1", "9999", "-200"}) {
            fault(JOINTS, "wheel u at a " + far + ";", 5, 13);
        }
    }

    private static String joints(int n) {
        StringBuilder b = new StringBuilder();
        for (int i = 0; i < n; i++) {
            b.append(i % 3 == 0 ? "ground " : "joint ").append((char) ('a' + i)).append(' ').append(i).append(' ').append(i * i)
                .append(';');
        }
        return b.toString();
    }

    /** BARS from the first twelve of 24 JOINTS to the others, no two alike; none between a, b and c. */
    private static String bars(int n) {
        StringBuilder b = new StringBuilder();
        for (int i = 0; i < n; i++) {
            b.append("bar ").append((char) ('a' + i % 12)).append(' ').append((char) ('m' + (i + i / 12) % 12)).append(';');
        }
        return b.toString();
    }

    private static String wheels(int n) {
        StringBuilder b = new StringBuilder("joint j 0 0;joint k 1 1;");
        for (int i = 0; i < n; i++) {
            b.append("wheel w").append((char) ('a' + i)).append(i % 2 == 0 ? " at j 10;" : " at k 10;");
        }
        return b.toString();
    }

    private static void mostJoints() {
        CHECK.on("'6 one too many: the NAME of a 25th JOINT'");
        fine(joints(24), 24);
        fault(joints(24), "joint y 0 0;", 6, 6);
        fault(joints(24), "ground y 0 0;", 6, 7);
        fault(joints(24), "joint y;", 6, 6);
        fine(joints(23) + "ground y 0 0;", 24);
        fine(joints(24) + "wheel y at a 9;", 25);
    }

    private static void mostWheels() {
        CHECK.on("'6 .. of a 17th WHEEL'");
        fine(wheels(16), 18);
        fault(wheels(16), "wheel x at j 9;", 6, 6);
        fault(wheels(16), "wheel x;", 6, 6);
        fine(wheels(16) + "joint x 0 0;", 19);
    }

    private static void mostBars() {
        CHECK.on("'6 .. the second NAME of a 61st BAR'");
        String most = joints(24) + bars(60);
        fine(most, 84);
        fault(most, "bar a b;", 6, 6);
        fault(most, "chain a b c;", 6, 8);
        fault(most, "frame a b c;", 6, 8);
        String less = joints(24) + bars(59);
        fine(less + "bar a b;", 84);
        fine(less + "chain a b;", 84);
        fault(less, "bar a b;bar b c;", 6, 14);
        fault(less, "chain a b c;", 6, 10);
        fault(less, "frame a b c;", 6, 10);
        fine(joints(24) + bars(58) + "chain a b c;", 84);
        CHECK.on("'6 .. (of that from the last to the first of a frame the ;)'");
        fault(joints(24) + bars(58), "frame a b c;", 6, 11);
        fault(joints(24) + bars(58), "frame a b c \n;", 6, 13);
        fine(joints(24) + bars(57) + "frame a b c;", 84);
    }

    private static void mostCouplings() {
        CHECK.on("'6 .. of a 31st COUPLING'");
        String[] sorts = {"mesh wa wb;", "belt wa wb;", "shaft wa wb;"};
        for (String sort : sorts) {
            String most = wheels(2) + sort.repeat(30);
            fine(most, 34);
            for (String more : sorts) {
                fault(most, more, 6, more.length() - 3);
            }
        }
        fine(wheels(3) + "mesh wa wb;belt wb wa;shaft wa wc;".repeat(10), 35);
    }

    /** 60 BARS without one twice: round 24 JOINTS by ones, then by fives, then half way by sevens. */
    private static String longestChain() {
        StringBuilder b = new StringBuilder("chain a");
        int joint = 0;
        for (int i = 0; i < 60; i++) {
            joint = (joint + (i < 24 ? 1 : i < 48 ? 5 : 7)) % 24;
            b.append(' ').append((char) ('a' + joint));
        }
        return b.append(';').toString();
    }

    private static void mostOfAll() {
        CHECK.on("'6 one too many': the most of each are taken together");
        StringBuilder b = new StringBuilder(joints(24)).append(longestChain());
        for (int i = 0; i < 16; i++) {
            b.append("wheel z").append((char) ('a' + i)).append(" at ").append((char) ('a' + i)).append(" 9;");
        }
        String most = b.append("belt za zb;".repeat(30)).toString();
        fine(most, 130);
        Desk x = Desk.of(most);
        CHECK.due("the last COUPLING", x.part(129, 1), 29);
        CHECK.due("the last BAR", x.part(83, 1), 59);
        CHECK.due("one PART more", x.part(130, 1), LinkageCurves.BAD);
        fault(most, "joint y 0 0;", 6, 6);
        fault(most, "wheel y at a 9;", 6, 6);
        fault(most, "bar a c;", 6, 6);
        fault(most, "belt za zb;", 6, 8);
    }

    private static void pairsOfBars() {
        CHECK.on("'7 .. a BAR whose JOINTS are the same'");
        fault(JOINTS, "bar a a;", 7, 6);
        fault(JOINTS, "chain a a;", 7, 8);
        fault(JOINTS, "chain a b b;", 7, 10);
        fault(JOINTS, "frame a b b;", 7, 10);
        CHECK.on("'7 .. are at one place'");
        fault(JOINTS, "bar d e;", 7, 6);
        fault(JOINTS, "chain a d e;", 7, 10);
        fault("ground p 3 4;", "joint q 3 4;bar p q;", 7, 18);
        fine("joint p 3 4;joint q 3 5;joint r 4 4;bar p q;bar p r;", 5);
        CHECK.on("'7 .. or have a BAR already'");
        fault(JOINTS, "bar a b;bar a b;", 7, 14);
        fault(JOINTS, "bar a b;bar b a;", 7, 14);
        fault(JOINTS, "bar a b;chain c b a;", 7, 18);
        fault(JOINTS, "chain a b a;", 7, 10);
        fault(JOINTS, "chain a b c a b;", 7, 14);
        fault(JOINTS, "frame a b a;", 7, 10);
        fine(JOINTS + "bar a b;bar a c;bar c b;", 8);
    }

    private static void closingBars() {
        CHECK.on("'7 .. (or ; likewise)': the BAR from the last to the first of a frame");
        fault(JOINTS, "frame d a e;", 7, 11);
        fault(JOINTS, "bar a c;frame a b c;", 7, 19);
        fault(JOINTS, "bar c a;frame a b c ;", 7, 20);
        fault(JOINTS, "frame a b c a;", 7, 13);
        fault(JOINTS, "frame a b d c b;", 7, 15);
        fine(JOINTS + "frame a b c d;bar a c;", 10);
    }

    private static void pairsOfCouplings() {
        CHECK.on("'7 .. that of a COUPLING of a WHEEL with itself'");
        fault(WHEELS, "mesh u u;", 7, 7);
        fault(WHEELS, "belt u u;", 7, 7);
        fault(WHEELS, "shaft w w;", 7, 8);
        CHECK.on("'7 .. of a mesh of two at the same JOINT'");
        fault(WHEELS, "mesh u w;", 7, 7);
        fault(WHEELS, "mesh w u;", 7, 7);
        fine(WHEELS + "belt u w;shaft u w;mesh u v;", 11);
        fine(JOINTS + "wheel u at d 9;wheel v at e 9;mesh u v;", 8);
        CHECK.on("'7': COUPLINGS of the same two once more have none");
        fine(WHEELS + "mesh u v;mesh u v;mesh v u;belt u v;belt v u;shaft u v;shaft u v;", 15);
    }

    private static void drives() {
        String bars = JOINTS + "ground g 9 9;ground h 8 1;chain a b c;bar a g;bar c g;";
        CHECK.on("'8 of drive: the second NAME': none of these");
        fine(bars + "drive b about a;", 11);
        fine(bars + "drive c about g;", 11);
        CHECK.on("'8 .. if that JOINT is not GROUND'");
        fault(bars, "drive b about c;", 8, 14);
        fault(bars, "drive c about b ;", 8, 14);
        CHECK.on("'8 .. the first one is'");
        fault(bars, "drive a about g;", 8, 14);
        fault(bars, "drive g about a;", 8, 14);
        fault(bars, "drive a about a;", 8, 14);
        CHECK.on("'8 .. there is no BAR between both'");
        fault(bars, "drive b about g;", 8, 14);
        fault(bars, "drive c about a;", 8, 14);
        fault(bars, "drive e about h;", 8, 14);
        fault(JOINTS, "drive b about a;bar a b;", 8, 14);
        CHECK.on("'8 .. or one is DRIVEN already'");
        fault(bars + "drive b about a;", "drive b about a;", 8, 14);
        fault(bars + "drive b about a;", "drive c about g;", 8, 14);
        Desk x = Desk.of(bars + "drive b about a;");
        CHECK.due("a text ahead does not count", x.read(bars + "drive c about g;"), 11);
        CHECK.due("the DRIVEN one", x.count(10), 2);
        CHECK.due("about which", x.count(11), 5);
        CHECK.due("a text with a FAULT does not count", x.read(bars + "drive b about a;!"), -11);
        CHECK.due("drive anew", x.read(bars + "drive b about a;"), 11);
        CHECK.due("the DRIVEN one", x.count(10), 1);
    }

    private static void firstToken() {
        CHECK.on("'FAULTS, the first TOKEN that has one'");
        fault("", "joint a 1001 abcdefgh;", 5, 8);
        fault("", "joint a 0 0 0 !", 2, 12);
        fault(JOINTS, "joint a 1001 0;", 3, 6);
        fault(JOINTS, "bar a a !", 7, 6);
        fault(JOINTS, "drive a about a !", 8, 14);
        fault(JOINTS, "wheel a at z 1;", 3, 6);
        fault(JOINTS, "wheel u at z 1;", 4, 11);
        fault(JOINTS, "wheel u at a 1 !", 5, 13);
        fault(joints(24), "joint y 9999 !", 6, 6);
        fault(WHEELS, "mesh u u v;", 7, 7);
    }

    private static void leastFault() {
        CHECK.on("'of one TOKEN the least': 1 ahead of 2");
        fault("", "joint !;", 1, 6);
        fault("", "joint abcdefg;", 1, 6);
        fault("", "12345;", 1, 0);
        CHECK.on("'of one TOKEN the least': 3 ahead of 6");
        fault(joints(24), "joint a 0 0;", 3, 6);
        fault(wheels(16), "wheel wa at j 9;", 3, 6);
        fault(wheels(16), "wheel j at j 9;", 3, 6);
        CHECK.on("'of one TOKEN the least': 4 ahead of 6, 7, 8");
        fault(joints(24) + bars(60), "bar a y;", 4, 6);
        fault(joints(24) + bars(60), "chain a y;", 4, 8);
        fault(wheels(2) + "belt wa wb;".repeat(30), "belt wa j;", 4, 8);
        fault(JOINTS, "drive a about z;", 4, 14);
        CHECK.on("'of one TOKEN the least': 6 ahead of 7");
        fault(joints(24) + bars(60), "bar a a;", 6, 6);
        fault(joints(24) + bars(60), "bar a m;", 6, 6);
        fault(joints(24) + bars(58) + "bar a c;", "frame a b c;", 6, 10);
        fault(joints(24) + bars(57) + "bar a c;", "frame a b c;", 6, 11);
        fault(wheels(3) + "belt wa wb;".repeat(30), "mesh wa wa;", 6, 8);
        fault(wheels(3) + "belt wa wb;".repeat(30), "mesh wa wc;", 6, 8);
        CHECK.on("'of one TOKEN the least': 2 ahead of 7 at a frame's ;");
        fault(JOINTS + "bar a b;", "frame a ;", 2, 8);
    }
}
