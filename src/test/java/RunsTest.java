/** Promises 16 to 20: begin, run, runLeft, told, agree. */
public final class RunsTest {
    private static final String POWER =
        "block;set c 1;goto 1;block;if b 2 3;block;set c c plus a;set b b less 1;say c;goto 1;block;say c;stop;";

    public static void main(String[] args) {
        begin();
        run();
        ops();
        over();
        runLeft();
        told();
        agree();
        Check.finish();
    }

    private static void begin() {
        PointMaker x = new PointMaker();
        Check.due("begin(0, 5)", x.begin(0, 5), 0);
        Check.due("begin(0, 99)", x.begin(0, 99), 5);
        Check.due("begin(0, 100)", x.begin(0, 100), -1);
        Check.due("begin(0, -1)", x.begin(0, -1), -1);
        Check.due("begin(6, 0)", x.begin(6, 0), -1);
        Check.due("begin(-1, 0)", x.begin(-1, 0), -1);
        Check.due("begin(5, 1)", x.begin(5, 1), 0);
        Check.due("begin(0, 0)", x.begin(0, 0), 99);
        Check.due("count(3)", x.count(3), 1);
    }

    private static int saidOf(int... values) {
        int said = 0;
        for (int v : values) {
            said = 31 * said + v + 1;
        }
        return said;
    }

    private static void run() {
        PointMaker x = Check.of(POWER).x;
        x.begin(0, 7);
        x.begin(1, 2);
        Check.due("run()", x.run(), 8);
        Check.due("told(0)", x.told(0), saidOf(8, 15, 15));
        Check.due("told(1)", x.told(1), 3);
        Check.due("told(2)", x.told(2), 7);
        Check.due("told(3)", x.told(3), 1);
        Check.due("told(10)", x.told(10), 7);
        Check.due("told(11)", x.told(11), 0);
        Check.due("told(12)", x.told(12), 15);
        // What is GIVEN goes ahead of that with which it begins.
        x.give(1, 0);
        Check.due("run()", x.run(), 2);
        Check.due("told(0)", x.told(0), saidOf(1));
        x.give(1, -1);
        Check.due("run()", x.run(), 8);
    }

    private static void ops() {
        PointMaker x = Check.of("block;set a 60 plus 60;set b 3 less 5;set c 4 same 4;set d 4 same 5;set e 5 more 4;"
            + "set f 4 more 4;stop;").x;
        Check.due("run()", x.run(), 6);
        int[] due = {99, 0, 1, 0, 1, 0};
        for (int v = 0; v < 6; v++) {
            Check.due("told(" + (10 + v) + ")", x.told(10 + v), due[v]);
        }
        x = Check.of("block;set a 50 plus 49;set b 5 less 3;set c 4 more 5;stop;").x;
        x.run();
        Check.due("50 plus 49", x.told(10), 99);
        Check.due("5 less 3", x.told(11), 2);
        Check.due("4 more 5", x.told(12), 0);
    }

    private static void over() {
        // 300 BLOCKS with a stop in the last one have stopped, one more is over.
        PointMaker x = Check.of("block;set a a plus 1;set c a same 99;if c 1 0;block;set a 0;set b b plus 1;"
            + "set c b same d;if c 2 0;block;stop;").x;
        x.begin(3, 2);
        Check.due("run()", x.run(), 2 * 99 * 2 + 6);
        Check.due("told(2)", x.told(2), 201);
        x.begin(3, 3);
        Check.due("run()", x.run(), -2);
        Check.due("told(2)", x.told(2), 300);
        Check.due("told(3)", x.told(3), 0);
        Check.due("told(11)", x.told(11), 3);
        x.begin(0, 1);
        Check.due("run()", x.run(), 2 * (98 + 99 + 99) + 9);
        Check.due("told(2)", x.told(2), 300);
        Check.due("told(3)", x.told(3), 1);
        x = Check.of("block;goto 0;").x;
        Check.due("run()", x.run(), -2);
        Check.due("runLeft()", x.runLeft(), -2);
        Check.due("told(2)", x.told(2), 300);
    }

    private static void runLeft() {
        PointMaker x = Check.of(POWER).x;
        x.give(0, 7);
        x.give(1, 2);
        Check.due("runLeft()", x.runLeft(), 6);
        Check.due("told(0)", x.told(0), saidOf(8, 15, 15));
        Check.due("told(1)", x.told(1), 3);
        Check.due("told(2)", x.told(2), 7);
        Check.due("told(3)", x.told(3), 1);
        Check.due("told(10)", x.told(10), 0);
        Check.due("told(11)", x.told(11), 0);
        Check.due("told(12)", x.told(12), 15);
        // UNKNOWN, but GIVEN: it begins with that.
        x = Check.of("block;say a;set a b;say a;stop;").x;
        x.give(0, 9);
        x.begin(0, 1);
        x.begin(1, 5);
        Check.due("rule(2)", x.rule(2), 63);
        Check.due("runLeft()", x.runLeft(), 3);
        Check.due("told(0)", x.told(0), saidOf(9, 5));
        Check.due("told(10)", x.told(10), 5);
        // A KNOWN one has 0 in the end, whatever begin() says.
        x = Check.of("block;say a;say b;stop;").x;
        x.give(0, 9);
        x.begin(0, 1);
        x.begin(1, 2);
        x.runLeft();
        Check.due("told(0)", x.told(0), saidOf(9, 2));
        Check.due("told(10)", x.told(10), 0);
        Check.due("told(11)", x.told(11), 2);
        PointMaker none = new PointMaker();
        Check.due("runLeft() without BLOCKS", none.runLeft(), -4);
        Check.due("told(3)", none.told(3), -4);
    }

    private static void told() {
        PointMaker x = new PointMaker();
        for (int w = -2; w < 20; w++) {
            int due = w == 0 ? 0 : w >= 1 && w <= 3 || w >= 10 && w <= 15 ? -4 : -1;
            Check.due("told(" + w + ") without a RUN", x.told(w), due);
        }
        Check.due("told(least)", x.told(Integer.MIN_VALUE), -1);
        Check.due("run() without BLOCKS", x.run(), 0);
        Check.due("told(2)", x.told(2), 0);
        Check.due("told(3)", x.told(3), 1);
        Check.due("told(4)", x.told(4), -1);
        Check.due("told(9)", x.told(9), -1);
        Check.due("told(16)", x.told(16), -1);
        // A RUN of nothing ends as it begins; NONE of runLeft() leaves it the latest.
        x.begin(3, 33);
        x.give(4, 44);
        x.run();
        Check.due("runLeft()", x.runLeft(), -4);
        Check.due("told(13)", x.told(13), 33);
        Check.due("told(14)", x.told(14), 44);
        // What is changed behind the latest RUN does not change what it told.
        x = Check.of("block;say a;stop;").x;
        x.begin(0, 3);
        x.runLeft();
        x.give(0, 5);
        x.agree(1, 5, 0);
        Check.due("told(10)", x.told(10), 3);
        Check.due("told(0)", x.told(0), 4);
    }

    private static void agree() {
        PointMaker x = Check.of("block;if a 1 0;block;say a;say b;set c 5;set c c plus d;if e 1 2;block;stop;").x;
        Check.due("agree(1, 0, 0)", x.agree(1, 0, 0), -1);
        Check.due("agree(1, 51, 0)", x.agree(1, 51, 0), -1);
        Check.due("agree(1, 1, 3)", x.agree(1, 1, 3), -1);
        Check.due("agree(1, 1, -1)", x.agree(1, 1, -1), -1);
        Check.due("no RUN yet", x.told(3), -4);
        for (int seed = -3; seed < 4; seed++) {
            Check.due("agree(seed, 50, 0)", x.agree(seed * 77777777, 50, 0), 50);
            Check.due("agree(seed, 50, 1)", x.agree(seed * 77777777, 50, 1), stops(seed * 77777777, 50, 0, 4));
            Check.due("agree(seed, 50, 2)", x.agree(seed * 77777777, 50, 2), 0);
        }
        Check.due("no RUN yet", x.told(3), -4);
        x.give(0, 1);
        x.give(4, 0);
        Check.due("all stop", x.agree(5, 20, 1), 20);
        x.give(2, 0);
        x.give(3, 4);
        Check.due("both sets are done", x.agree(5, 20, 2), 40);
        Check.due("agree", x.agree(5, 20, 0), 20);
        // STEPS of RUNS that are over count too.
        x.give(4, 1);
        Check.due("none stops", x.agree(5, 2, 1), 0);
        Check.due("both sets are done", x.agree(5, 2, 2), 2 * 299 * 2);
    }

    /** RUNS by the seed in which the first VARIABLE is not 0 and the second one is. */
    private static int stops(int seed, int n, int must, int mustNot) {
        int stops = 0;
        int turn = seed;
        for (int i = 0; i < n; i++) {
            int[] got = new int[6];
            for (int v = 0; v < 6; v++) {
                turn = turn * 1103515245 + 12345;
                got[v] = (turn >> 16 & 32767) % 12;
            }
            stops += got[must] != 0 && got[mustNot] == 0 ? 1 : 0;
        }
        return stops;
    }
}
