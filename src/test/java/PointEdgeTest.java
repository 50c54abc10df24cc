/** The edges of what the document says of POINTS, of what is LEFT and SHOWN: promises 11 to 15, and their Terms. */
public final class PointEdgeTest {
    private static final int LEAST = Integer.MIN_VALUE, MOST = Integer.MAX_VALUE;
    private static final String COUNTDOWN = "block;set a a less 1;if a 0 1;block;say f;stop;";

    public static void main(String[] args) {
        valuesThere();
        pointZero();
        leftSteps();
        doneAtPoints();
        leftEnds();
        order();
        alike();
        unknownAlike();
        noPoints();
        noMoreThanForty();
        shownText();
        shownNumbers();
        shownLongest();
        point();
        pointParts();
        leader();
        held();
        left();
        shown();
        whereFrom();
        whereFirst();
        whereBad();
        Check.finish();
    }

    private static PointMaker countdown(int a) {
        PointMaker x = Check.of(COUNTDOWN).x;
        x.give(0, a);
        return x;
    }

    private static void valuesThere() {
        Check.sentence("POINTS 0 on: a BLOCK, and VALUES of the KNOWN VARIABLES there (with WISE 1: 0 of those that "
            + "are not READ ahead at it).");
        // b is read at BLOCK 1 alone, a at BLOCK 0 alone, c nowhere; all but f are KNOWN.
        String text = "block;say a;goto 1;block;say b;set b 40;goto 2;block;stop;";
        int[][] wise = {{10, 20, 0, 0, 0, -4}, {0, 20, 0, 0, 0, -4}, {0, 0, 0, 0, 0, -4}};
        int[][] plain = {{10, 20, 30, 0, 7, -4}, {10, 20, 30, 0, 7, -4}, {10, 40, 30, 0, 7, -4}};
        for (int w = 0; w < 2; w++) {
            PointMaker x = Check.of(text).x;
            int[] given = {10, 20, 30, 0, 7};
            for (int v = 0; v < 5; v++) {
                x.give(v, given[v]);
            }
            x.wise(w);
            for (int k = 0; k < 3; k++) {
                for (int v = 0; v < 6; v++) {
                    Check.due("held(" + k + ", " + v + ") with WISE " + w, x.held(k, v), (w == 1 ? wise : plain)[k][v]);
                }
            }
            Check.due("point(0, 0)", x.point(0, 0), 0);
            Check.due("point(2, 0)", x.point(2, 0), 2);
            Check.due("point(3, 0)", x.point(3, 0), -1);
        }
    }

    private static void pointZero() {
        Check.sentence("POINT 0: BLOCK 0 with what is GIVEN.");
        PointMaker x = Check.of("block;say a;say b;goto 1;block;goto 0;").x;
        Check.due("point(0, 0)", x.point(0, 0), 0);
        Check.due("none GIVEN", x.held(0, 0), -4);
        x.give(0, 0);
        Check.due("0 GIVEN", x.held(0, 0), 0);
        x.give(0, 99);
        Check.due("99 GIVEN", x.held(0, 0), 99);
        Check.due("b has none", x.held(0, 1), -4);
        // What a VARIABLE begins with is not GIVEN.
        x.begin(1, 5);
        Check.due("b has none", x.held(0, 1), -4);
        // GIVEN, but UNKNOWN.
        x = Check.of("block;say a;set a b;stop;").x;
        x.give(0, 9);
        Check.due("held(0, 0)", x.held(0, 0), -4);
        x.give(1, 8);
        Check.due("held(0, 0)", x.held(0, 0), 9);
    }

    private static void leftSteps() {
        Check.sentence("LEFT of a POINT: STEPS of its BLOCK by order, with these VALUES: a set whose TARGET is KNOWN "
            + "is done; any other STEP is LEFT, each OPERAND that is KNOWN as the NUMBER that it is then.");
        Check c = Check.of("block;say a;set a a plus 1;say a;set f a less a;set f f more a;say f;say 5;set a 0;set b a;"
            + "say b;stop;");
        for (int v = 0; v < 5; v++) {
            c.x.give(v, 9);
        }
        Check.due("LEFT", c.shown(0),
            "p0: say 9; say 10; set f 10 less 10; set f f more 10; say f; say 5; say 0; stop;");
        // A set of NUMBERS alone is LEFT, if its TARGET is UNKNOWN; a say is LEFT always.
        c.x.give(0, -1);
        Check.due("LEFT", c.shown(0), "p0: say a; set a a plus 1; say a; set f a less a; set f f more a; say f; say 5; "
            + "set a 0 plus 0; set b a plus 0; say b; stop;");
        c = Check.of("block;say 1;set a 2;stop;");
        Check.due("UNKNOWN TARGET", c.shown(0), "p0: say 1; set a 2 plus 0; stop;");
        c.x.give(0, 0);
        Check.due("KNOWN TARGET", c.shown(0), "p0: say 1; stop;");
    }

    private static void doneAtPoints() {
        // What is KNOWN is done with the bounds of the OPS, as in a RUN.
        String[] ops = {"plus", "less", "same", "more"};
        int[][] pairs = {{0, 0}, {98, 1}, {99, 0}, {99, 1}, {50, 49}, {50, 50}, {99, 99}, {0, 99}, {1, 0}, {1, 1}, {1, 2}};
        for (int op = 0; op < 4; op++) {
            for (int[] pair : pairs) {
                Check c = Check.of("block;set c a " + ops[op] + " b;goto 1;block;say c;stop;");
                c.x.give(0, pair[0]);
                c.x.give(1, pair[1]);
                c.x.give(2, 50);
                int due = result(op, pair[0], pair[1]);
                Check.due(pair[0] + " " + ops[op] + " " + pair[1], c.shown(1), "p1: say " + due + "; stop;");
                Check.due("held(1, 2)", c.x.held(1, 2), due);
            }
        }
    }

    private static int result(int op, int a, int b) {
        int[] all = {Math.min(99, a + b), Math.max(0, a - b), a == b ? 1 : 0, a > b ? 1 : 0};
        return all[op];
    }

    private static void leftEnds() {
        Check.sentence("Its END with the VALUES then: a goto, an if of a KNOWN VARIABLE: goto that POINT; an if of an "
            + "UNKNOWN one: both (the first one first); stop.");
        String text = "block;if a 2 1;block;stop;block;goto 1;";
        Check c = Check.of(text);
        Check.due("both", c.shown(0), "p0: if a p1 p2;");
        Check.due("the first one first", c.x.point(1, 0), 2);
        Check.due("then the second", c.x.point(2, 0), 1);
        Check.due("goto", c.shown(1), "p1: goto p2;");
        Check.due("stop", c.shown(2), "p2: stop;");
        int[][] ways = {{0, 1}, {1, 2}, {99, 2}};
        for (int[] way : ways) {
            c = Check.of(text);
            c.x.give(0, way[0]);
            Check.due("a is " + way[0], c.shown(0), "p0: goto p1;");
            Check.due("a is " + way[0], c.x.point(1, 0), way[1]);
        }
        // The VALUE then: behind the STEPS, not that with which the POINT begins.
        c = Check.of("block;set a a less 1;if a 2 1;block;stop;block;goto 1;");
        c.x.give(0, 1);
        Check.due("a is 0 then", c.x.point(1, 0), 1);
        c.x.give(0, 2);
        Check.due("a is 1 then", c.x.point(1, 0), 2);
        c = Check.of("block;if a 1 1;block;stop;");
        Check.due("both to one", c.shown(0), "p0: if a p1 p1;");
        Check.due("rule(5)", c.x.rule(5), 2);
        c.x.give(0, 0);
        Check.due("KNOWN", c.shown(0), "p0: goto p1;");
    }

    private static void order() {
        Check.sentence("POINTS are found by order: those to which POINT 0 leads, then those to which the next one "
            + "does, and so on;");
        // Breadth first: 0 leads to 4, 2; 4 to 6, 1; 2 to 3; 6 to 5; 7 is never met.
        PointMaker x = Check.of("block;if a 4 2;block;stop;block;goto 3;block;goto 0;block;if b 6 1;block;stop;"
            + "block;goto 5;block;goto 0;").x;
        int[] blocks = {0, 4, 2, 6, 1, 3, 5};
        Check.due("rule(5)", x.rule(5), 7);
        for (int k = 0; k < 7; k++) {
            Check.due("point(" + k + ", 0)", x.point(k, 0), blocks[k]);
        }
        Check.due("point(7, 0)", x.point(7, 0), -1);
    }

    private static void alike() {
        Check.sentence("one that is alike is found again.");
        // a goes 3, 2, 1, 0, 0, 0: the POINT with 0 leads to itself.
        Check c = Check.of("block;set a a less 1;say a;goto 0;");
        c.x.give(0, 3);
        Check.due("rule(5)", c.x.rule(5), 4);
        Check.due("p3", c.shown(3), "p3: say 0; goto p3;");
        // a stays at 99.
        c = Check.of("block;set a a plus 1;say a;goto 0;");
        c.x.give(0, 98);
        Check.due("rule(5)", c.x.rule(5), 2);
        Check.due("p1", c.shown(1), "p1: say 99; goto p1;");
        // POINT 0 is found again, too.
        c = Check.of("block;set a 1 less a;say f;goto 0;");
        c.x.give(0, 0);
        Check.due("rule(5)", c.x.rule(5), 2);
        Check.due("p1", c.shown(1), "p1: say f; goto p0;");
        // The same VALUES at another BLOCK, other VALUES at the same BLOCK are not alike.
        c = Check.of("block;goto 1;block;goto 0;");
        Check.due("rule(5)", c.x.rule(5), 2);
        c = Check.of("block;if f 1 2;block;set a 1;goto 3;block;set b 1;goto 3;block;say a;say b;stop;");
        c.x.give(0, 0);
        c.x.give(1, 0);
        Check.due("rule(5)", c.x.rule(5), 5);
        // One VARIABLE that tells them apart is enough, and WISE does not tell apart what is not read.
        c.x.alter(3, 2, 7);
        Check.due("rule(5)", c.x.rule(5), 5);
        c.x.alter(2, 2, 7);
        Check.due("rule(5)", c.x.rule(5), 4);
        c.x.wise(0);
        Check.due("rule(5)", c.x.rule(5), 5);
    }

    /** VALUES of UNKNOWN ones, GIVEN or not, tell no POINTS apart. */
    private static void unknownAlike() {
        Check c = Check.of("block;if f 1 2;block;set a f;goto 3;block;say 1;goto 3;block;say a;stop;");
        c.x.give(0, 5);
        Check.due("a is UNKNOWN", c.x.rule(2), 63);
        for (int w = 1; w >= 0; w--) {
            c.x.wise(w);
            Check.due("rule(5), WISE " + w, c.x.rule(5), 4);
            Check.due("p1", c.shown(1), "p1: set a f plus 0; goto p3;");
            Check.due("p2", c.shown(2), "p2: say 1; goto p3;");
        }
    }

    private static void noPoints() {
        Check.sentence("There are no POINTS, if there are no BLOCKS,");
        PointMaker[] both = {new PointMaker(), countdown(40)};
        for (PointMaker x : both) {
            Check.due("point(0, 0)", x.point(0, 0), -1);
            Check.due("held(0, 5)", x.held(0, 5), -1);
            Check.due("left(0, 0, 0)", x.left(0, 0, 0), -1);
            Check.due("shown(0, 0)", x.shown(0, 0), -1);
            Check.due("where(0, 0, 0, 0)", x.where(0, 0, 0, 0), -1);
            Check.due("runLeft()", x.runLeft(), -4);
            Check.due("agree(1, 1, 0)", x.agree(1, 1, 0), -4);
            Check.due("rule(6)", x.rule(6), 0);
            Check.due("rule(7)", x.rule(7), 0);
        }
        // One BLOCK is enough.
        Check.due("point(0, 0)", Check.of("block;stop;").x.point(0, 0), 0);
    }

    private static void noMoreThanForty() {
        Check.sentence("or if they would be more than 40.");
        PointMaker x = countdown(39);
        Check.due("rule(5)", x.rule(5), 40);
        Check.due("point(39, 0)", x.point(39, 0), 1);
        Check.due("point(40, 0)", x.point(40, 0), -1);
        Check.due("runLeft()", x.runLeft(), 1);
        x.give(0, 40);
        Check.due("rule(5)", x.rule(5), -3);
        Check.due("point(39, 0)", x.point(39, 0), -1);
        x.give(0, 39);
        Check.due("point(39, 0)", x.point(39, 0), 1);
        // The 40th and the 41st by one if of an UNKNOWN one.
        String fork = "block;set a a less 1;if a 0 1;block;if f 2 3;block;stop;block;stop;";
        x = Check.of(fork).x;
        x.give(0, 37);
        Check.due("rule(5)", x.rule(5), 40);
        Check.due("point(39, 0)", x.point(39, 0), 3);
        x.give(0, 38);
        Check.due("rule(5)", x.rule(5), -3);
        // Both to one: the 40th, found again.
        x.lead(1, 4, 2);
        Check.due("rule(5)", x.rule(5), 40);
        Check.due("point(38, 3)", x.point(38, 3), 39);
        Check.due("point(38, 4)", x.point(38, 4), 39);
        // 40, found again by the last one; one that is not alike makes them too many.
        x = Check.of("block;set a a less 1;if a 0 1;block;say c;set c c plus 1;goto 1;").x;
        x.give(0, 30);
        x.give(2, 90);
        Check.due("rule(5)", x.rule(5), 40);
        Check.due("point(39, 3)", x.point(39, 3), 39);
        x.give(2, 89);
        Check.due("rule(5)", x.rule(5), -3);
    }

    private static void shownText() {
        Check.sentence("SHOWN of a POINT k is a text: p, k, : , then of each STEP that is LEFT a blank and "
            + "set V O OP O; or say O; and of its END a blank and goto pK; or if V pK pL; or stop;");
        Check c = Check.of("block;set a b plus c;set d e less f;set f 1 same 2;set a 3 more b;say f;say 99;if e 1 2;"
            + "block;goto 2;block;stop;");
        Check.due("p0", c.shown(0), "p0: set a b plus c; set d e less f; set f 1 same 2; set a 3 more b; say f; say 99; "
            + "if e p1 p2;");
        Check.due("p1", c.shown(1), "p1: goto p2;");
        Check.due("p2", c.shown(2), "p2: stop;");
        Check.due("shown(2, 8)", c.x.shown(2, 8), ';');
        Check.due("shown(2, 9)", c.x.shown(2, 9), -1);
    }

    private static void shownNumbers() {
        Check.sentence("(NUMBERS as they are, words one blank apart, K, L numbers of POINTS).");
        for (int n : new int[] {0, 9, 10, 11, 90, 99}) {
            Check c = Check.of("block;say a;set b a plus a;stop;");
            c.x.give(0, n);
            Check.due("say " + n, c.shown(0), "p0: say " + n + "; set b " + n + " plus " + n + "; stop;");
        }
        // Figures that stand ahead in the text are not shown.
        Check.due("00", Check.of("block;say 00;say 07;stop;").shown(0), "p0: say 0; say 7; stop;");
        Check c = new Check();
        c.x = countdown(39);
        Check.due("p8", c.shown(8), "p8: goto p9;");
        Check.due("p9", c.shown(9), "p9: goto p10;");
        Check.due("p10", c.shown(10), "p10: goto p11;");
        Check.due("p38", c.shown(38), "p38: goto p39;");
        Check.due("p39", c.shown(39), "p39: say f; stop;");
        // K and L are POINTS, not BLOCKS.
        c = Check.of("block;if f 3 1;block;stop;block;stop;block;goto 2;");
        Check.due("p0", c.shown(0), "p0: if f p1 p2;");
        Check.due("p1", c.shown(1), "p1: goto p3;");
    }

    private static void shownLongest() {
        String due = "p0:" + " set f 99 plus 98;".repeat(24) + " if f p0 p0;";
        // Asked of three objects, because one is for 512 calls.
        for (int part = 0; part < 3; part++) {
            PointMaker x = longest();
            Check.due("point(0, 7)", x.point(0, 7), due.length());
            for (int i = part; i < due.length(); i += 3) {
                Check.due("shown(0, " + i + ")", x.shown(0, i), due.charAt(i));
            }
        }
        PointMaker x = longest();
        int last = due.length() - 1;
        Check.due("shown(0, last)", x.shown(0, last), ';');
        Check.due("shown behind it", x.shown(0, last + 1), -1);
        Check.due("where, the last STEP", x.where(0, 3 + 18 * 22 + 2, 0, 0), 3 + 18 * 23 + 1);
        Check.due("where, behind it", x.where(0, 3 + 18 * 23 + 2, 0, 0), -4);
    }

    private static PointMaker longest() {
        PointMaker x = Check.of("block;" + "set f a;".repeat(24) + "if f 0 0;").x;
        for (int i = 0; i < 24; i++) {
            x.alter(i, 2, 99);
            x.alter(i, 4, 98);
        }
        return x;
    }

    private static void point() {
        Check.sentence("Of a POINT: 0 its BLOCK, 1 how many STEPS are LEFT, 2 its END as it is LEFT, "
            + "3 its first POINT (NONE), 4 its second (NONE), 5 its VARIABLE (NONE),");
        PointMaker x = Check.of("block;set a 1;say b;if c 1 2;block;goto 2;block;stop;").x;
        int[][] due = {{0, 2, 1, 1, 2, 2}, {1, 0, 0, 2, -4, -4}, {2, 0, 2, -4, -4, -4}};
        for (int k = 0; k < 3; k++) {
            for (int w = 0; w < 6; w++) {
                Check.due("point(" + k + ", " + w + ")", x.point(k, w), due[k][w]);
            }
        }
        // A KNOWN VARIABLE: the END is a goto, it has no second and no VARIABLE; a STEP is done.
        x.give(0, 5);
        x.give(2, 0);
        int[][] known = {{0, 1, 0, 1, -4, -4}, {2, 0, 2, -4, -4, -4}};
        for (int k = 0; k < 2; k++) {
            for (int w = 0; w < 6; w++) {
                Check.due("point(" + k + ", " + w + ")", x.point(k, w), known[k][w]);
            }
        }
        Check.due("point(2, 0)", x.point(2, 0), -1);
    }

    private static void pointParts() {
        Check.sentence("7 how many bytes SHOWN has. BAD.");
        Check c = Check.of("block;say a;goto 1;block;stop;");
        Check.due("point(0, 7)", c.x.point(0, 7), "p0: say a; goto p1;".length());
        Check.due("point(1, 7)", c.x.point(1, 7), "p1: stop;".length());
        c.x.give(0, 10);
        Check.due("point(0, 7)", c.x.point(0, 7), "p0: say 10; goto p1;".length());
        for (int w : new int[] {-1, 8, 9, LEAST, MOST}) {
            Check.due("point(0, " + w + ")", c.x.point(0, w), -1);
        }
        for (int k : new int[] {-1, 2, 39, 40, 41, LEAST, MOST}) {
            for (int w = 0; w < 8; w++) {
                Check.due("point(" + k + ", " + w + ")", c.x.point(k, w), -1);
            }
        }
    }

    private static void leader() {
        Check.sentence("6 the first POINT that leads to it (NONE: POINT 0 to which none does),");
        PointMaker x = Check.of("block;if a 1 2;block;goto 3;block;goto 3;block;stop;").x;
        int[] due = {-4, 0, 0, 1};
        for (int k = 0; k < 4; k++) {
            Check.due("point(" + k + ", 6)", x.point(k, 6), due[k]);
        }
        // POINT 0: the first that does, itself too.
        x.lead(2, 3, 0);
        Check.due("point(0, 6), 2 does", x.point(0, 6), 2);
        x.lead(1, 3, 0);
        Check.due("point(0, 6), 1 does", x.point(0, 6), 1);
        x.lead(0, 4, 0);
        Check.due("point(0, 6), 0 does", x.point(0, 6), 0);
        Check.due("point(1, 6)", x.point(1, 6), 0);
        // One that leads to itself was found by another one ahead.
        x = Check.of("block;goto 1;block;goto 1;").x;
        Check.due("point(0, 6)", x.point(0, 6), -4);
        Check.due("point(1, 6)", x.point(1, 6), 0);
        x = countdown(39);
        Check.due("point(39, 6)", x.point(39, 6), 38);
    }

    private static void held() {
        Check.sentence("The VALUE of a VARIABLE at a POINT. BAD; NONE: it is UNKNOWN.");
        PointMaker x = countdown(2);
        Check.due("held(0, 0)", x.held(0, 0), 2);
        Check.due("held(1, 0)", x.held(1, 0), 1);
        Check.due("held(2, 0)", x.held(2, 0), 0);
        for (int v = 1; v < 6; v++) {
            Check.due("held(0, " + v + ")", x.held(0, v), -4);
        }
        for (int v : new int[] {-1, 6, LEAST, MOST}) {
            Check.due("held(0, " + v + ")", x.held(0, v), -1);
        }
        for (int k : new int[] {-1, 3, 40, LEAST, MOST}) {
            Check.due("held(" + k + ", 0)", x.held(k, 0), -1);
            Check.due("held(" + k + ", 1), UNKNOWN", x.held(k, 1), -1);
        }
    }

    private static void left() {
        Check.sentence("Of the i-th STEP that is LEFT of a POINT, as of step(). BAD.");
        PointMaker x = Check.of("block;set a 1;set b a less c;say a;goto 1;block;set a 2;stop;").x;
        x.give(0, 0);
        int[][] due = {{0, 1, 1, 1, 102}, {1, -4, 1, -4, -4}};
        for (int i = 0; i < 2; i++) {
            for (int w = 0; w < 5; w++) {
                Check.due("left(0, " + i + ", " + w + ")", x.left(0, i, w), due[i][w]);
            }
            for (int w : new int[] {-1, 5, LEAST, MOST}) {
                Check.due("left(0, " + i + ", " + w + ")", x.left(0, i, w), -1);
            }
        }
        for (int i : new int[] {-1, 2, 3, LEAST, MOST}) {
            Check.due("left(0, " + i + ", 0)", x.left(0, i, 0), -1);
        }
        // The STEP of POINT 1 is done: it has none LEFT, also none of its neighbour.
        for (int i : new int[] {-2, -1, 0, 1}) {
            Check.due("left(1, " + i + ", 0)", x.left(1, i, 0), -1);
        }
        for (int k : new int[] {-1, 2, LEAST, MOST}) {
            Check.due("left(" + k + ", 0, 0)", x.left(k, 0, 0), -1);
        }
        x.give(0, -1);
        Check.due("left(1, 0, 2)", x.left(1, 0, 2), 2);
        Check.due("left(1, -1, 2)", x.left(1, -1, 2), -1);
        Check.due("left(0, 2, 2)", x.left(0, 2, 2), 100);
        Check.due("left(0, 3, 2), that of POINT 1", x.left(0, 3, 2), -1);
    }

    private static void shown() {
        Check.sentence("Byte i of SHOWN of a POINT. BAD.");
        PointMaker x = Check.of("block;goto 1;block;stop;").x;
        String[] due = {"p0: goto p1;", "p1: stop;"};
        for (int k = 0; k < 2; k++) {
            for (int i = 0; i < due[k].length(); i++) {
                Check.due("shown(" + k + ", " + i + ")", x.shown(k, i), due[k].charAt(i));
            }
            for (int i : new int[] {-1, due[k].length(), due[k].length() + 1, 511, 512, LEAST, MOST}) {
                Check.due("shown(" + k + ", " + i + ")", x.shown(k, i), -1);
            }
        }
        for (int k : new int[] {-1, 2, 40, LEAST, MOST}) {
            Check.due("shown(" + k + ", 0)", x.shown(k, 0), -1);
        }
        // By turns, and behind each other call.
        for (int i = 0; i < 9; i++) {
            Check.due("shown(0, " + i + ")", x.shown(0, i), due[0].charAt(i));
            Check.due("rule(7)", x.rule(7), 21);
            Check.due("shown(1, " + i + ")", x.shown(1, i), due[1].charAt(i));
        }
    }

    private static void whereFrom() {
        Check.sentence("Where, from byte i on (0 on), the SHOWN of a POINT has the SHOWN of STEP j that is LEFT of "
            + "POINT m (from its first letter to its ;) first.");
        // p0: say a; say 1; say a; say 11; goto p1;
        // p1: say a; say 1; stop;
        PointMaker x = Check.of("block;say a;say 1;say a;say 11;goto 1;block;say a;say 1;stop;").x;
        Check.due("from 0", x.where(0, 0, 0, 0), 4);
        Check.due("from 4", x.where(0, 4, 0, 0), 4);
        Check.due("from 5", x.where(0, 5, 0, 0), 18);
        Check.due("from 18", x.where(0, 18, 0, 0), 18);
        Check.due("from 19", x.where(0, 19, 0, 0), -4);
        // The third STEP is found where the first one alike is.
        Check.due("STEP 2", x.where(0, 0, 0, 2), 4);
        // To its ; : say 1; is not in say 11;
        Check.due("STEP 1", x.where(0, 0, 0, 1), 11);
        Check.due("STEP 1 from 12", x.where(0, 12, 0, 1), -4);
        Check.due("STEP 3", x.where(0, 0, 0, 3), 25);
        // Of another POINT.
        Check.due("of POINT 0 in POINT 1", x.where(1, 0, 0, 2), 4);
        Check.due("of POINT 1 in POINT 0", x.where(0, 5, 1, 0), 18);
        Check.due("of POINT 0 in POINT 1", x.where(1, 0, 0, 1), 11);
    }

    private static void whereFirst() {
        Check.sentence("NONE: nowhere.");
        PointMaker x = Check.of("block;say 7;goto 1;block;stop;").x;
        // p0: say 7; goto p1;  has 19 bytes
        Check.due("say 7 in POINT 1", x.where(1, 0, 0, 0), -4);
        Check.due("in POINT 0", x.where(0, 0, 0, 0), 4);
        for (int i : new int[] {5, 18, 19, 20, 512, 513, MOST}) {
            Check.due("from " + i, x.where(0, i, 0, 0), -4);
        }
        // A STEP that is longer than all that the POINT shows.
        x = Check.of("block;set a b plus c;goto 1;block;stop;").x;
        Check.due("longer", x.where(1, 0, 0, 0), -4);
        // As its last letters but the END.
        x = Check.of("block;say a;stop;").x;
        Check.due("at the end", x.where(0, 0, 0, 0), 4);
    }

    private static void whereBad() {
        Check.sentence("BAD: also no such STEP;");
        PointMaker x = Check.of("block;say 7;goto 1;block;stop;").x;
        Check.due("j 1", x.where(0, 0, 0, 1), -1);
        Check.due("j -1", x.where(0, 0, 0, -1), -1);
        Check.due("j of a POINT that has none", x.where(0, 0, 1, 0), -1);
        Check.due("j of a POINT that has none", x.where(1, 0, 1, 0), -1);
        Check.due("j 0", x.where(0, 0, 0, 0), 4);
        for (int far : new int[] {-1, LEAST}) {
            Check.due("i " + far, x.where(0, far, 0, 0), -1);
            // BAD goes ahead of NONE.
            Check.due("i " + far, x.where(1, far, 0, 0), -1);
        }
        for (int far : new int[] {-1, 2, LEAST, MOST}) {
            Check.due("k " + far, x.where(far, 0, 0, 0), -1);
            Check.due("m " + far, x.where(0, 0, far, 0), -1);
            Check.due("m " + far + " from far", x.where(0, 100, far, 0), -1);
        }
        for (int far : new int[] {LEAST, MOST}) {
            Check.due("j " + far, x.where(0, 0, 0, far), -1);
        }
    }
}
