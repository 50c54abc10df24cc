/** Promises 11 to 15: point, held, left, shown, where. */
public final class PointsTest {
    private static final String POWER =
        "block;set c 1;goto 1;block;if b 2 3;block;set c c plus a;set b b less 1;say c;goto 1;block;say c;stop;";

    public static void main(String[] args) {
        point();
        bothWays();
        leaders();
        wise();
        held();
        left();
        shown();
        where();
        Check.finish();
    }

    private static Check power() {
        Check c = Check.of(POWER);
        c.x.give(0, 7);
        c.x.give(1, 2);
        return c;
    }

    private static void point() {
        PointMaker x = power().x;
        Check.due("rule(5)", x.rule(5), 7);
        int[][] due = {{0, 1, 0, 1, -4, -4, -4, 28}, {1, 0, 0, 2, -4, -4, 0, 12}, {2, 2, 0, 3, -4, -4, 1, 35},
            {1, 0, 0, 4, -4, -4, 2, 12}, {2, 2, 0, 5, -4, -4, 3, 35}, {1, 0, 0, 6, -4, -4, 4, 12},
            {3, 1, 2, -4, -4, -4, 5, 16}};
        for (int k = 0; k < 7; k++) {
            for (int w = 0; w < 8; w++) {
                Check.due("point(" + k + ", " + w + ")", x.point(k, w), due[k][w]);
            }
            Check.due("point(k, 8)", x.point(k, 8), -1);
            Check.due("point(k, -1)", x.point(k, -1), -1);
        }
        Check.due("point(7, 0)", x.point(7, 0), -1);
        Check.due("point(-1, 0)", x.point(-1, 0), -1);
    }

    private static void bothWays() {
        Check c = Check.of("block;set a a plus 1;if b 1 2;block;if a 2 2;block;say a;if b 0 2;");
        c.x.give(0, 98);
        Check.due("rule(5)", c.x.rule(5), 4);
        Check.due("p0", c.shown(0), "p0: if b p1 p2;");
        Check.due("p1", c.shown(1), "p1: goto p2;");
        Check.due("p2", c.shown(2), "p2: say 99; if b p3 p2;");
        Check.due("p3", c.shown(3), "p3: if b p1 p2;");
        Check.due("point(0, 2)", c.x.point(0, 2), 1);
        Check.due("point(0, 5)", c.x.point(0, 5), 1);
        Check.due("point(1, 6)", c.x.point(1, 6), 0);
        // Both ways to one POINT are still an if.
        c = Check.of("block;if b 1 1;block;stop;");
        Check.due("p0", c.shown(0), "p0: if b p1 p1;");
        Check.due("rule(5)", c.x.rule(5), 2);
    }

    private static void leaders() {
        PointMaker x = Check.of("block;goto 0;").x;
        Check.due("POINT 0 leads to itself", x.point(0, 6), 0);
        x = Check.of("block;if a 1 2;block;goto 3;block;goto 0;block;goto 0;").x;
        Check.due("point(0, 6)", x.point(0, 6), 2);
        Check.due("point(1, 6)", x.point(1, 6), 0);
        Check.due("point(2, 6)", x.point(2, 6), 0);
        Check.due("point(3, 6)", x.point(3, 6), 1);
        x.lead(3, 3, 3);
        x.lead(2, 3, 3);
        Check.due("none leads to it", x.point(0, 6), -4);
        Check.due("point(3, 6)", x.point(3, 6), 1);
    }

    private static void wise() {
        // a is not read behind BLOCK 0, so that with WISE both ways meet in one POINT.
        Check c = Check.of("block;if b 1 2;block;set a 5;goto 3;block;set a 6;goto 3;block;say c;stop;");
        c.x.give(0, 9);
        c.x.give(2, 4);
        Check.due("rule(5), WISE 1", c.x.rule(5), 4);
        Check.due("held(0, 0)", c.x.held(0, 0), 0);
        Check.due("held(0, 2)", c.x.held(0, 2), 4);
        Check.due("held(3, 0)", c.x.held(3, 0), 0);
        c.x.wise(0);
        Check.due("rule(5), WISE 0", c.x.rule(5), 5);
        Check.due("held(0, 0)", c.x.held(0, 0), 9);
        Check.due("held(1, 0)", c.x.held(1, 0), 9);
        Check.due("held(3, 0)", c.x.held(3, 0), 5);
        Check.due("held(4, 0)", c.x.held(4, 0), 6);
        Check.due("held(4, 2)", c.x.held(4, 2), 4);
    }

    private static void held() {
        PointMaker x = power().x;
        Check.due("held(2, 0)", x.held(2, 0), 7);
        Check.due("held(2, 1)", x.held(2, 1), 2);
        Check.due("held(4, 1)", x.held(4, 1), 1);
        Check.due("held(5, 1)", x.held(5, 1), 0);
        for (int v = 2; v < 6; v++) {
            Check.due("held(2, " + v + ")", x.held(2, v), -4);
        }
        Check.due("held(0, 6)", x.held(0, 6), -1);
        Check.due("held(0, -1)", x.held(0, -1), -1);
        Check.due("held(7, 0)", x.held(7, 0), -1);
        Check.due("held(-1, 0)", x.held(-1, 0), -1);
        // UNKNOWN though it is GIVEN.
        x.give(2, 50);
        Check.due("held(0, 2)", x.held(0, 2), 0);
        x.give(0, -1);
        Check.due("held(0, 2)", x.held(0, 2), -4);
    }

    private static void left() {
        PointMaker x = power().x;
        int[][] set = {{0, 2, 102, 0, 7}, {1, -4, 102, -4, -4}};
        for (int i = 0; i < 2; i++) {
            for (int w = 0; w < 5; w++) {
                Check.due("left(2, " + i + ", " + w + ")", x.left(2, i, w), set[i][w]);
            }
        }
        Check.due("left(2, 2, 0)", x.left(2, 2, 0), -1);
        Check.due("left(2, -1, 0)", x.left(2, -1, 0), -1);
        Check.due("left(2, 0, 5)", x.left(2, 0, 5), -1);
        Check.due("left(2, 0, -1)", x.left(2, 0, -1), -1);
        Check.due("left(1, 0, 0)", x.left(1, 0, 0), -1);
        Check.due("left(7, 0, 0)", x.left(7, 0, 0), -1);
        Check.due("left(-1, 0, 0)", x.left(-1, 0, 0), -1);
        // A KNOWN OPERAND is the NUMBER that it is then, behind the sets ahead of it.
        x = Check.of("block;set a a plus 1;say a;set a a same a;set b a more c;say a;say b;stop;").x;
        x.give(0, 41);
        Check.due("rule(6)", x.rule(6), 4);
        Check.due("left(0, 0, 2)", x.left(0, 0, 2), 42);
        Check.due("left(0, 1, 2)", x.left(0, 1, 2), 1);
        Check.due("left(0, 1, 4)", x.left(0, 1, 4), 102);
        Check.due("left(0, 2, 2)", x.left(0, 2, 2), 1);
        Check.due("left(0, 3, 2)", x.left(0, 3, 2), 101);
    }

    private static void shown() {
        Check c = power();
        Check.due("p0", c.shown(0), "p0: set c 1 plus 0; goto p1;");
        Check.due("p1", c.shown(1), "p1: goto p2;");
        Check.due("p2", c.shown(2), "p2: set c c plus 7; say c; goto p3;");
        Check.due("p6", c.shown(6), "p6: say c; stop;");
        Check.due("shown(0, -1)", c.x.shown(0, -1), -1);
        Check.due("shown(0, 28)", c.x.shown(0, 28), -1);
        Check.due("shown(7, 0)", c.x.shown(7, 0), -1);
        Check.due("shown(-1, 0)", c.x.shown(-1, 0), -1);
        // SHOWN follows what is changed, also of the POINT that was shown last.
        Check.due("p2", c.shown(2), "p2: set c c plus 7; say c; goto p3;");
        c.x.give(0, 10);
        Check.due("p2", c.shown(2), "p2: set c c plus 10; say c; goto p3;");
        c.x.alter(1, 3, 3);
        Check.due("p2", c.shown(2), "p2: set c c more 10; say c; goto p3;");
        c.x.alter(1, 3, 1);
        Check.due("p2", c.shown(2), "p2: set c c less 10; say c; goto p3;");
        c.x.alter(1, 3, 2);
        Check.due("p2", c.shown(2), "p2: set c c same 10; say c; goto p3;");
        c = Check.of("block;set a a less 1;set b 99 more f;if a 0 1;block;say a;say b;if f 0 1;");
        c.x.give(0, 12);
        Check.due("p9", c.shown(9), "p9: set b 99 more f; goto p10;");
        Check.due("p12", c.shown(12), "p12: say 0; say b; if f p13 p12;");
        // Long ones; the longest is in PointEdgeTest.
        c = Check.of("block;" + "set a1;".repeat(10) + "goto 0;");
        for (int i = 0; i < 10; i++) {
            c.x.alter(i, 2, 99);
            c.x.alter(i, 4, 98);
        }
        Check.due("long", c.shown(0), "p0:" + " set a 99 plus 98;".repeat(10) + " goto p0;");
    }

    private static void where() {
        PointMaker x = power().x;
        // p2: set c c plus 7; say c; goto p3;      p6: say c; stop;
        Check.due("where(2, 0, 2, 0)", x.where(2, 0, 2, 0), 4);
        Check.due("where(2, 4, 2, 0)", x.where(2, 4, 2, 0), 4);
        Check.due("where(2, 5, 2, 0)", x.where(2, 5, 2, 0), -4);
        Check.due("where(2, 0, 6, 0)", x.where(2, 0, 6, 0), 20);
        Check.due("where(6, 0, 2, 1)", x.where(6, 0, 2, 1), 4);
        Check.due("where(6, 0, 2, 0)", x.where(6, 0, 2, 0), -4);
        Check.due("where(1, 0, 2, 1)", x.where(1, 0, 2, 1), -4);
        Check.due("where(2, 2147483647, 2, 0)", x.where(2, Integer.MAX_VALUE, 2, 0), -4);
        Check.due("where(2, -1, 2, 0)", x.where(2, -1, 2, 0), -1);
        Check.due("where(7, 0, 2, 0)", x.where(7, 0, 2, 0), -1);
        Check.due("where(2, 0, 7, 0)", x.where(2, 0, 7, 0), -1);
        Check.due("where(2, 0, 2, 2)", x.where(2, 0, 2, 2), -1);
        Check.due("where(2, 0, 2, -1)", x.where(2, 0, 2, -1), -1);
        Check.due("where(2, 0, 1, 0)", x.where(2, 0, 1, 0), -1);
        // The first of two from there on.
        x = Check.of("block;say a;say 1;say a;say 11;stop;").x;
        Check.due("first", x.where(0, 0, 0, 2), 4);
        Check.due("second", x.where(0, 5, 0, 0), 18);
        Check.due("say 11", x.where(0, 0, 0, 3), 25);
    }
}
