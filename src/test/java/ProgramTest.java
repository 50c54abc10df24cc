/** Promises 6 to 10 and 21 to 24: rule, block, step, give, wise, alter, lead, keep, back. */
public final class ProgramTest {
    private static final String POWER =
        "block;set c 1;goto 1;block;if b 2 3;block;set c c plus a;set b b less 1;say c;goto 1;block;say c;stop;";

    public static void main(String[] args) {
        rule();
        unknown();
        block();
        readAhead();
        step();
        give();
        wise();
        alter();
        lead();
        images();
        Check.finish();
    }

    private static void rule() {
        PointMaker x = Check.of(POWER).x;
        Check.due("rule(-1)", x.rule(-1), -1);
        Check.due("rule(8)", x.rule(8), -1);
        Check.due("rule(0)", x.rule(0), 4);
        Check.due("rule(1)", x.rule(1), 5);
        Check.due("rule(5)", x.rule(5), 4);
        Check.due("rule(6)", x.rule(6), 5);
        Check.due("rule(7)", x.rule(7), 110);
        // 40 POINTS are some, 41 are none.
        x = Check.of("block;set a a less 1;if a 0 1;block;stop;").x;
        x.give(0, 39);
        Check.due("rule(5), 39", x.rule(5), 40);
        Check.due("rule(7), 39", x.rule(7), 9 * 12 + 13 + 29 * 14 + 10);
        x.give(0, 40);
        Check.due("rule(5), 40", x.rule(5), -3);
        Check.due("rule(6), 40", x.rule(6), 0);
        Check.due("rule(7), 40", x.rule(7), 0);
        Check.due("point(0, 0)", x.point(0, 0), -1);
        Check.due("held(0, 0)", x.held(0, 0), -1);
        Check.due("runLeft()", x.runLeft(), -4);
        Check.due("agree", x.agree(1, 1, 0), -4);
        Check.due("run()", x.run(), 40);
    }

    private static void unknown() {
        PointMaker x = Check.of("block;set a b;set b c;set c d more e;say f;stop;block;set f 1;stop;").x;
        for (int v = 0; v < 6; v++) {
            x.give(v, v);
        }
        Check.due("all KNOWN", x.rule(2), 0);
        Check.due("all GIVEN", x.rule(3), 63);
        x.give(4, -1);
        Check.due("e, c, b, a UNKNOWN", x.rule(2), 23);
        Check.due("all but e GIVEN", x.rule(3), 47);
        x.give(4, 1);
        x.give(1, -1);
        Check.due("b, a UNKNOWN", x.rule(2), 3);
        x.give(5, -1);
        Check.due("f stays UNKNOWN though it is set to a NUMBER", x.rule(2), 35);
        // A set in a BLOCK to which none leads counts too.
        x = Check.of("block;stop;block;set a b;stop;").x;
        x.give(0, 1);
        Check.due("a UNKNOWN", x.rule(2), 63);
    }

    private static void block() {
        PointMaker x = Check.of(POWER).x;
        int[][] due = {{0, 1, 0, 1, -4, -4}, {-4, 0, 1, 2, 3, 1}, {1, 3, 0, 1, -4, -4}, {4, 1, 2, -4, -4, -4}};
        for (int b = 0; b < 4; b++) {
            for (int w = 0; w < 6; w++) {
                Check.due("block(" + b + ", " + w + ")", x.block(b, w), due[b][w]);
            }
            Check.due("block(b, 7)", x.block(b, 7), -1);
            Check.due("block(b, -1)", x.block(b, -1), -1);
        }
        Check.due("block(4, 0)", x.block(4, 0), -1);
        Check.due("block(-1, 0)", x.block(-1, 0), -1);
    }

    private static void readAhead() {
        PointMaker x = Check.of(POWER).x;
        int[] due = {3, 7, 7, 4};
        for (int b = 0; b < 4; b++) {
            Check.due("block(" + b + ", 6)", x.block(b, 6), due[b]);
        }
        // An OPERAND is read ahead of its own TARGET, a TARGET hides what comes behind it.
        x = Check.of("block;set a a;set b 1;say b;set c 2;if c 1 2;block;say d;stop;block;say c;say e;goto 2;").x;
        Check.due("block(0, 6)", x.block(0, 6), 1 + 8 + 16);
        Check.due("block(1, 6)", x.block(1, 6), 8);
        Check.due("block(2, 6)", x.block(2, 6), 4 + 16);
        x.lead(0, 5, 5);
        Check.due("block(0, 6) asks f", x.block(0, 6), 1 + 8 + 16 + 32);
        // A long way round, against the order of the BLOCKS.
        x = Check.of("block;goto 7;block;say f;stop;block;goto 1;block;goto 2;block;goto 3;block;goto 4;block;goto 5;"
            + "block;goto 6;").x;
        for (int b = 0; b < 8; b++) {
            Check.due("the long way, " + b, x.block(b, 6), 32);
        }
    }

    private static void step() {
        PointMaker x = Check.of("block;set a 1;set b a plus 2;set c 3 less b;set d c same f;set e 99 more 0;say f;"
            + "say 7;stop;").x;
        int[][] due = {{0, 0, 1, 0, 0}, {0, 1, 100, 0, 2}, {0, 2, 3, 1, 101}, {0, 3, 102, 2, 105}, {0, 4, 99, 3, 0},
            {1, -4, 105, -4, -4}, {1, -4, 7, -4, -4}};
        for (int i = 0; i < due.length; i++) {
            for (int w = 0; w < 5; w++) {
                Check.due("step(" + i + ", " + w + ")", x.step(i, w), due[i][w]);
            }
            Check.due("step(i, 5)", x.step(i, 5), -1);
            Check.due("step(i, -1)", x.step(i, -1), -1);
        }
        Check.due("step(7, 0)", x.step(7, 0), -1);
        Check.due("step(-1, 0)", x.step(-1, 0), -1);
    }

    private static void give() {
        PointMaker x = new PointMaker();
        Check.due("give(0, 5)", x.give(0, 5), -4);
        Check.due("give(0, 0)", x.give(0, 0), 5);
        Check.due("give(0, 99)", x.give(0, 99), 0);
        Check.due("give(0, 100)", x.give(0, 100), -1);
        Check.due("give(0, -2)", x.give(0, -2), -1);
        Check.due("give(6, 1)", x.give(6, 1), -1);
        Check.due("give(-1, 1)", x.give(-1, 1), -1);
        Check.due("rule(3)", x.rule(3), 1);
        Check.due("give(0, -1)", x.give(0, -1), 99);
        Check.due("give(0, -1)", x.give(0, -1), -4);
        Check.due("rule(3)", x.rule(3), 0);
        Check.due("give(5, 1)", x.give(5, 1), -4);
        Check.due("rule(3)", x.rule(3), 32);
        Check.due("rule(2)", x.rule(2), 31);
    }

    private static void wise() {
        PointMaker x = new PointMaker();
        Check.due("wise(2)", x.wise(2), -1);
        Check.due("wise(-1)", x.wise(-1), -1);
        Check.due("wise(0)", x.wise(0), 1);
        Check.due("rule(4)", x.rule(4), 0);
        Check.due("wise(0)", x.wise(0), 0);
        Check.due("wise(1)", x.wise(1), 0);
        Check.due("wise(1)", x.wise(1), 1);
    }

    private static void alter() {
        PointMaker x = Check.of("block;set a 1;say b;stop;").x;
        Check.due("alter(0, 0, 1)", x.alter(0, 0, 1), -1);
        Check.due("alter(0, 5, 1)", x.alter(0, 5, 1), -1);
        Check.due("alter(2, 1, 1)", x.alter(2, 1, 1), -1);
        Check.due("alter(-1, 1, 1)", x.alter(-1, 1, 1), -1);
        Check.due("alter(0, 1, 6)", x.alter(0, 1, 6), -1);
        Check.due("alter(0, 1, -1)", x.alter(0, 1, -1), -1);
        Check.due("alter(0, 2, 106)", x.alter(0, 2, 106), -1);
        Check.due("alter(0, 2, -1)", x.alter(0, 2, -1), -1);
        Check.due("alter(0, 3, 4)", x.alter(0, 3, 4), -1);
        Check.due("alter(0, 4, 106)", x.alter(0, 4, 106), -1);
        for (int w : new int[] {0, 1, 3, 4, 5}) {
            Check.due("alter of say " + w, x.alter(1, w, 1), -1);
        }
        Check.due("alter(0, 1, 5)", x.alter(0, 1, 5), 0);
        Check.due("alter(0, 2, 105)", x.alter(0, 2, 105), 1);
        Check.due("alter(0, 3, 3)", x.alter(0, 3, 3), 0);
        Check.due("alter(0, 4, 99)", x.alter(0, 4, 99), 0);
        Check.due("alter(1, 2, 100)", x.alter(1, 2, 100), 101);
        int[][] due = {{0, 5, 105, 3, 99}, {1, -4, 100, -4, -4}};
        for (int i = 0; i < 2; i++) {
            for (int w = 0; w < 5; w++) {
                Check.due("step(" + i + ", " + w + ")", x.step(i, w), due[i][w]);
            }
        }
        Check.due("alter(0, 1, 0)", x.alter(0, 1, 0), 5);
        Check.due("alter(0, 1, 5)", x.alter(0, 1, 5), 0);
        Check.due("block(0, 6)", x.block(0, 6), 33);
        x.give(5, 3);
        Check.due("rule(2)", x.rule(2), 31);
        Check.due("rule(6)", x.rule(6), 1);
        x.alter(0, 4, 100);
        Check.due("rule(2)", x.rule(2), 63);
        Check.due("rule(6)", x.rule(6), 2);
    }

    private static void lead() {
        PointMaker x = Check.of("block;if a 1 2;block;goto 2;block;stop;").x;
        Check.due("lead(0, 2, 1)", x.lead(0, 2, 1), -1);
        Check.due("lead(0, 6, 1)", x.lead(0, 6, 1), -1);
        Check.due("lead(3, 3, 0)", x.lead(3, 3, 0), -1);
        Check.due("lead(-1, 3, 0)", x.lead(-1, 3, 0), -1);
        Check.due("lead(0, 3, 3)", x.lead(0, 3, 3), -1);
        Check.due("lead(0, 4, -1)", x.lead(0, 4, -1), -1);
        Check.due("lead(0, 5, 6)", x.lead(0, 5, 6), -1);
        Check.due("lead(1, 4, 0)", x.lead(1, 4, 0), -1);
        Check.due("lead(1, 5, 0)", x.lead(1, 5, 0), -1);
        Check.due("lead(2, 3, 0)", x.lead(2, 3, 0), -1);
        Check.due("lead(0, 3, 2)", x.lead(0, 3, 2), 1);
        Check.due("lead(0, 4, 0)", x.lead(0, 4, 0), 2);
        Check.due("lead(0, 5, 5)", x.lead(0, 5, 5), 0);
        Check.due("lead(1, 3, 0)", x.lead(1, 3, 0), 2);
        Check.due("block(0, 3)", x.block(0, 3), 2);
        Check.due("block(0, 4)", x.block(0, 4), 0);
        Check.due("block(0, 5)", x.block(0, 5), 5);
        Check.due("block(1, 3)", x.block(1, 3), 0);
        Check.due("rule(5)", x.rule(5), 2);
    }

    private static void images() {
        PointMaker x = Check.of("block;set a 1;goto 1;block;stop;").x;
        Check.due("keep(2)", x.keep(2), -1);
        Check.due("keep(-1)", x.keep(-1), -1);
        Check.due("back(2)", x.back(2), -1);
        Check.due("back(-1)", x.back(-1), -1);
        Check.due("back(0)", x.back(0), -2);
        x.give(0, 7);
        x.wise(0);
        Check.due("keep(0)", x.keep(0), 0);
        Check.due("keep(0)", x.keep(0), 1);
        Check.due("count(0)", x.count(0), 1);
        x.alter(0, 2, 50);
        x.lead(0, 3, 0);
        x.give(0, -1);
        x.give(3, 3);
        x.wise(1);
        x.begin(4, 44);
        x.feed('z');
        Check.due("keep(1)", x.keep(1), 0);
        Check.due("count(0)", x.count(0), 2);
        Check.due("run()", x.run(), -2);
        Check.due("back(0)", x.back(0), 2);
        Check.due("told(3)", x.told(3), -4);
        Check.due("step(0, 2)", x.step(0, 2), 1);
        Check.due("block(0, 3)", x.block(0, 3), 1);
        Check.due("rule(3)", x.rule(3), 1);
        Check.due("rule(4)", x.rule(4), 0);
        Check.due("rule(5)", x.rule(5), 2);
        Check.due("held(0, 0)", x.held(0, 0), 7);
        Check.due("count(3)", x.count(3), 44);
        Check.due("count(1)", x.count(1), 1);
        Check.due("count(0)", x.count(0), 2);
        Check.due("back(1)", x.back(1), 2);
        Check.due("step(0, 2)", x.step(0, 2), 50);
        Check.due("rule(3)", x.rule(3), 8);
        Check.due("rule(2)", x.rule(2), 55);
        Check.due("back(0)", x.back(0), 2);
        Check.due("rule(2)", x.rule(2), 62);
        Check.due("back(1)", x.back(1), 2);
        // An IMAGE is a copy: what is changed behind keep() does not reach it.
        x.alter(0, 2, 51);
        Check.due("back(1)", x.back(1), 2);
        Check.due("step(0, 2)", x.step(0, 2), 50);
        PointMaker y = new PointMaker();
        Check.due("keep(0) without BLOCKS", y.keep(0), 0);
        Check.due("back(0) without BLOCKS", y.back(0), 0);
    }
}
