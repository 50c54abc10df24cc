import java.math.BigInteger;

/** The edges of what the document says of RUNS: promises 16 to 20, and their Terms. */
public final class RunEdgeTest {
    private static final int LEAST = Integer.MIN_VALUE, MOST = Integer.MAX_VALUE;
    /** Through so many BLOCKS as a, b, c, d have, each at least 1, and one that stops. */
    private static final String LOOPS = "block;set a a less 1;if a 0 1;block;set b b less 1;if b 1 2;"
        + "block;set c c less 1;if c 2 3;block;set d d less 1;if d 3 4;block;stop;";

    public static void main(String[] args) {
        plus();
        less();
        same();
        more();
        withoutBlocks();
        ways();
        behindThreeHundred();
        said();
        saidWraps();
        pointToPoint();
        begin();
        run();
        runLeft();
        runLeftNone();
        told();
        toldNone();
        agreeBounds();
        agreeSeed();
        agreeStops();
        agreeSteps();
        agreeNone();
        Check.finish();
    }

    /** VALUES in the VARIABLES, of a RUN and of a RUN of what is LEFT. */
    private static void op(String name, int[][] rows) {
        for (int[] row : rows) {
            PointMaker x = Check.of("block;set c a " + name + " b;say c;stop;").x;
            x.begin(0, row[0]);
            x.begin(1, row[1]);
            String call = row[0] + " " + name + " " + row[1];
            Check.due("run()", x.run(), 2);
            Check.due(call, x.told(12), row[2]);
            Check.due("runLeft()", x.runLeft(), 2);
            Check.due(call, x.told(12), row[2]);
            x.give(1, row[1]);
            Check.due("runLeft(), b KNOWN", x.runLeft(), 2);
            Check.due(call, x.told(12), row[2]);
            x.give(0, row[0]);
            x.give(2, 50);
            Check.due("runLeft(), all KNOWN", x.runLeft(), 1);
            Check.due(call, x.told(0), row[2] + 1);
        }
    }

    private static void plus() {
        Check.sentence("OPS: 0 plus (99 at most),");
        op("plus", new int[][] {{0, 0, 0}, {98, 0, 98}, {98, 1, 99}, {99, 0, 99}, {0, 99, 99}, {99, 1, 99}, {50, 49, 99},
            {50, 50, 99}, {99, 99, 99}});
    }

    private static void less() {
        Check.sentence("1 less (0 at least),");
        op("less", new int[][] {{0, 0, 0}, {1, 0, 1}, {1, 1, 0}, {1, 2, 0}, {99, 0, 99}, {99, 98, 1}, {99, 99, 0},
            {0, 99, 0}});
    }

    private static void same() {
        Check.sentence("2 same (1: both are the same, else 0),");
        op("same", new int[][] {{0, 0, 1}, {0, 1, 0}, {1, 0, 0}, {99, 99, 1}, {98, 99, 0}, {99, 98, 0}});
    }

    private static void more() {
        Check.sentence("3 more (1: the first is more than the second, else 0).");
        op("more", new int[][] {{0, 0, 0}, {1, 0, 1}, {0, 1, 0}, {99, 98, 1}, {99, 99, 0}, {98, 99, 0}});
    }

    private static void withoutBlocks() {
        Check.sentence("A RUN begins at BLOCK 0 (without BLOCKS: it has stopped), with VALUES in VARIABLES.");
        PointMaker x = new PointMaker();
        x.begin(5, 55);
        Check.due("run()", x.run(), 0);
        Check.due("told(0)", x.told(0), 0);
        Check.due("told(1)", x.told(1), 0);
        Check.due("told(2)", x.told(2), 0);
        Check.due("told(3)", x.told(3), 1);
        Check.due("told(15)", x.told(15), 55);
        x = Check.of("block;stop;block;say 1;stop;").x;
        Check.due("one BLOCK of no STEPS", x.run(), 0);
        Check.due("told(2)", x.told(2), 1);
        Check.due("told(3)", x.told(3), 1);
    }

    private static void ways() {
        Check.sentence("STEPS of a BLOCK by order, then its END: if: the first BLOCK, if the VALUE is not 0, else the "
            + "second.");
        int[][] due = {{0, 3}, {1, 2}, {2, 2}, {99, 2}};
        for (int[] pair : due) {
            PointMaker x = Check.of("block;if a 1 2;block;say 1;stop;block;say 2;stop;").x;
            x.begin(0, pair[0]);
            Check.due("run()", x.run(), 1);
            Check.due("told(0), a is " + pair[0], x.told(0), pair[1]);
            Check.due("runLeft()", x.runLeft(), 1);
            Check.due("told(0), a is " + pair[0], x.told(0), pair[1]);
        }
        // The VALUE behind the STEPS.
        PointMaker x = Check.of("block;say a;set a a less 1;say a;if a 1 2;block;say 50;stop;block;say 60;stop;").x;
        x.begin(0, 1);
        Check.due("run()", x.run(), 4);
        Check.due("told(0)", x.told(0), (2 * 31 + 1) * 31 + 61);
        x.begin(0, 2);
        Check.due("run()", x.run(), 4);
        Check.due("told(0)", x.told(0), (3 * 31 + 2) * 31 + 51);
    }

    private static PointMaker loops(int d) {
        PointMaker x = Check.of(LOOPS).x;
        for (int v = 0; v < 3; v++) {
            x.begin(v, 99);
        }
        x.begin(3, d);
        return x;
    }

    private static void behindThreeHundred() {
        Check.sentence("Behind 300 BLOCKS without stop it is over.");
        // 297 and d BLOCKS without stop, then one with it.
        int[][] due = {{1, 299}, {2, 300}};
        for (int[] pair : due) {
            PointMaker x = loops(pair[0]);
            Check.due("run(), " + pair[1] + " BLOCKS", x.run(), 297 + pair[0]);
            Check.due("told(2)", x.told(2), pair[1]);
            Check.due("told(3)", x.told(3), 1);
        }
        for (int d = 3; d < 5; d++) {
            PointMaker x = loops(d);
            Check.due("run(), too many BLOCKS", x.run(), -2);
            Check.due("told(2)", x.told(2), 300);
            Check.due("told(3)", x.told(3), 0);
            // The STEPS of the 300th were done.
            Check.due("told(13)", x.told(13), d - 3);
        }
        PointMaker x = Check.of("block;say 1;goto 0;").x;
        Check.due("without end", x.run(), -2);
        Check.due("told(1)", x.told(1), 300);
    }

    private static void said() {
        Check.sentence("Each VALUE that is said comes: SAID is 31 times what it was (0 at first), and the VALUE, and 1,");
        PointMaker x = Check.of("block;stop;").x;
        x.run();
        Check.due("nothing said", x.told(0), 0);
        Check.due("told(1)", x.told(1), 0);
        x = Check.of("block;say 0;stop;").x;
        x.run();
        Check.due("0 said", x.told(0), 1);
        Check.due("told(1)", x.told(1), 1);
        x = Check.of("block;say 0;say 0;say 99;stop;").x;
        x.run();
        Check.due("three said", x.told(0), 31 * 32 + 100);
        // Each RUN begins with 0.
        x.run();
        Check.due("again", x.told(0), 31 * 32 + 100);
    }

    private static void saidWraps() {
        Check.sentence("by 32 bits (what is beyond lost).");
        // 99 said n times, in numbers that do not wrap.
        for (int n = 1; n <= 24; n++) {
            BigInteger due = BigInteger.ZERO;
            for (int i = 0; i < n; i++) {
                due = due.multiply(BigInteger.valueOf(31)).add(BigInteger.valueOf(100));
            }
            PointMaker x = Check.of("block;" + "say a;".repeat(n) + "stop;").x;
            x.begin(0, 99);
            x.run();
            Check.due("told(0), said " + n, x.told(0), due.intValue());
            x.runLeft();
            Check.due("told(0), said " + n, x.told(0), due.intValue());
        }
        // 5 fit into 31 bits, 6 do not.
        int[] due = {95430500, -1336621696};
        for (int n = 5; n <= 6; n++) {
            PointMaker x = Check.of("block;" + "say 99;".repeat(n) + "stop;").x;
            x.run();
            Check.due("told(0), said " + n, x.told(0), due[n - 5]);
        }
    }

    private static void pointToPoint() {
        Check.sentence("A RUN of what is LEFT begins at POINT 0, with VALUES in the UNKNOWN ones, and goes from POINT "
            + "to POINT alike (300 at most).");
        int[][] due = {{1, 299}, {2, 300}};
        for (int[] pair : due) {
            PointMaker x = loops(pair[0]);
            Check.due("runLeft()", x.runLeft(), 297 + pair[0]);
            Check.due("told(2)", x.told(2), pair[1]);
            Check.due("told(3)", x.told(3), 1);
            // d KNOWN: it has POINTS of its own, so many as BLOCKS were gone through.
            x.give(3, pair[0]);
            Check.due("runLeft()", x.runLeft(), 297);
            Check.due("told(2)", x.told(2), pair[1]);
            Check.due("told(3)", x.told(3), 1);
        }
        PointMaker x = loops(3);
        Check.due("runLeft()", x.runLeft(), -2);
        Check.due("told(2)", x.told(2), 300);
        Check.due("told(3)", x.told(3), 0);
        x.give(3, 3);
        Check.due("runLeft()", x.runLeft(), -2);
        Check.due("told(2)", x.told(2), 300);
        Check.due("told(10)", x.told(10), 0);
    }

    private static void begin() {
        Check.sentence("The VALUE (0 to 99) with which a VARIABLE begins a RUN becomes x (0 at first): what it was. BAD.");
        PointMaker x = new PointMaker();
        for (int v = 0; v < 6; v++) {
            Check.due("begin(v, 99)", x.begin(v, 99), 0);
            for (int bad : new int[] {-1, 100, LEAST, MOST}) {
                Check.due("begin(v, " + bad + ")", x.begin(v, bad), -1);
            }
            Check.due("begin(v, 1)", x.begin(v, 1), 99);
            Check.due("begin(v, 0)", x.begin(v, 0), 1);
            Check.due("begin(v, 7)", x.begin(v, 7), 0);
        }
        for (int v : new int[] {-1, 6, LEAST, MOST}) {
            Check.due("begin(" + v + ", 1)", x.begin(v, 1), -1);
        }
        Check.due("count(3)", x.count(3), 42);
    }

    private static void run() {
        Check.sentence("A RUN with these VALUES, where a VALUE is GIVEN with that: how many STEPS were done, those that "
            + "were said, too; STATE: it is over.");
        PointMaker x = Check.of("block;say a;set b 1;stop;").x;
        x.begin(0, 5);
        Check.due("run()", x.run(), 2);
        Check.due("told(0)", x.told(0), 6);
        // GIVEN goes ahead, 0 too; what begins stays as it was.
        x.give(0, 0);
        x.run();
        Check.due("told(0), 0 GIVEN", x.told(0), 1);
        x.give(0, 99);
        x.run();
        Check.due("told(0), 99 GIVEN", x.told(0), 100);
        x.give(0, -1);
        x.run();
        Check.due("told(0), none GIVEN", x.told(0), 6);
        Check.due("begin(0, 5)", x.begin(0, 5), 5);
        Check.due("no STEPS", Check.of("block;stop;").x.run(), 0);
        Check.due("24 STEPS", Check.of("block;" + "say 1;".repeat(24) + "stop;").x.run(), 24);
        Check.due("over", Check.of("block;goto 0;").x.run(), -2);
        // The next RUN begins anew, not where the one ahead ended.
        x = Check.of("block;set a a plus 1;stop;").x;
        x.run();
        x.run();
        Check.due("told(10)", x.told(10), 1);
    }

    private static void runLeft() {
        Check.sentence("A RUN of what is LEFT with these VALUES in UNKNOWN ones, where a VALUE is GIVEN with that: how "
            + "many STEPS LEFT were done; STATE: it is over;");
        PointMaker x = Check.of("block;say a;say b;set c 1;set b a;say b;stop;").x;
        x.begin(0, 5);
        x.begin(1, 6);
        x.begin(2, 7);
        Check.due("runLeft(), all UNKNOWN", x.runLeft(), 5);
        Check.due("told(0)", x.told(0), (6 * 31 + 7) * 31 + 6);
        // b is UNKNOWN, but GIVEN; c is KNOWN.
        x.give(1, 60);
        x.give(2, 70);
        Check.due("runLeft()", x.runLeft(), 4);
        Check.due("told(0)", x.told(0), (6 * 31 + 61) * 31 + 6);
        x.give(0, 0);
        Check.due("runLeft(), all KNOWN", x.runLeft(), 3);
        Check.due("told(0)", x.told(0), (1 * 31 + 61) * 31 + 1);
        Check.due("no STEPS LEFT", Check.of("block;stop;").x.runLeft(), 0);
        Check.due("over", Check.of("block;goto 0;").x.runLeft(), -2);
    }

    private static void runLeftNone() {
        Check.sentence("NONE: there are no POINTS (the latest RUN stays).");
        PointMaker x = new PointMaker();
        Check.due("runLeft()", x.runLeft(), -4);
        Check.due("there was no RUN", x.told(1), -4);
        x = Check.of("block;set a a less 1;say a;if a 0 1;block;stop;").x;
        x.give(0, 39);
        Check.due("runLeft(), 40 POINTS", x.runLeft(), 39);
        x.give(0, 40);
        Check.due("runLeft(), 41 POINTS", x.runLeft(), -4);
        Check.due("told(1) of the one ahead", x.told(1), 39);
        Check.due("told(2)", x.told(2), 40);
        Check.due("run()", x.run(), 80);
        Check.due("runLeft()", x.runLeft(), -4);
        Check.due("told(1)", x.told(1), 40);
    }

    private static void told() {
        Check.sentence("Of the latest RUN (of either): 0 SAID, 1 how many VALUES were said, 2 through how many BLOCKS, "
            + "POINTS it went, 3 whether it stopped (1, 0); 10 and v: the VALUE of a VARIABLE in the end (of what is "
            + "LEFT, 0 of one that is KNOWN).");
        PointMaker x = Check.of("block;say a;say b;set c b plus 1;goto 1;block;set a 30;set f 40;stop;").x;
        x.give(0, 10);
        x.give(4, 50);
        x.begin(1, 20);
        x.begin(3, 25);
        Check.due("run()", x.run(), 5);
        int[] whole = {11 * 31 + 21, 2, 2, 1, 30, 20, 21, 25, 50, 40};
        int[] rest = {11 * 31 + 21, 2, 2, 1, 0, 20, 21, 25, 0, 40};
        for (int i = 0; i < 10; i++) {
            Check.due("told of run(), " + i, x.told(i < 4 ? i : 6 + i), whole[i]);
        }
        Check.due("runLeft()", x.runLeft(), 4);
        for (int i = 0; i < 10; i++) {
            Check.due("told of runLeft(), " + i, x.told(i < 4 ? i : 6 + i), rest[i]);
        }
        x.run();
        Check.due("told(10) of the latest", x.told(10), 30);
        for (int w : new int[] {-1, 4, 5, 9, 16, 17, LEAST, MOST, LEAST + 10}) {
            Check.due("told(" + w + ")", x.told(w), -1);
        }
        x = Check.of("block;goto 0;").x;
        x.run();
        Check.due("told(3), over", x.told(3), 0);
    }

    private static void toldNone() {
        Check.sentence("BAD; NONE (of 1 on), 0 (of 0): there was none.");
        PointMaker x = Check.of("block;say a;stop;").x;
        for (int turn = 0; turn < 3; turn++) {
            Check.due("told(0)", x.told(0), 0);
            for (int w : new int[] {1, 2, 3, 10, 11, 12, 13, 14, 15}) {
                Check.due("told(" + w + ")", x.told(w), -4);
            }
            for (int w : new int[] {-1, 4, 9, 16, LEAST, MOST}) {
                Check.due("told(" + w + ")", x.told(w), -1);
            }
            if (turn == 0) {
                // RUNS by a seed are no latest ones.
                x.agree(7, 50, 0);
            } else {
                x.run();
                Check.due("told(0)", x.told(0), 1);
                Check.due("told(1)", x.told(1), 1);
                x.keep(0);
                x.back(0);
            }
        }
    }

    private static void agreeBounds() {
        Check.sentence("n RUNS (1 to 50) of either by a seed, by themselves (they are no latest ones):");
        PointMaker x = Check.of("block;say a;stop;").x;
        for (int n : new int[] {0, -1, 51, LEAST, MOST}) {
            Check.due("agree(1, " + n + ", 1)", x.agree(1, n, 1), -1);
        }
        for (int n : new int[] {1, 2, 49, 50}) {
            Check.due("agree(1, " + n + ", 0)", x.agree(1, n, 0), n);
            Check.due("agree(1, " + n + ", 1)", x.agree(1, n, 1), n);
        }
        for (int w : new int[] {-1, 3, LEAST, MOST}) {
            Check.due("agree(1, 1, " + w + ")", x.agree(1, 1, w), -1);
        }
        Check.due("no RUN", x.told(1), -4);
        x.begin(0, 44);
        x.run();
        x.agree(9, 50, 2);
        Check.due("the latest stays", x.told(0), 45);
        Check.due("and what begins", x.begin(0, 0), 44);
    }

    private static void agreeSeed() {
        Check.sentence("for each VARIABLE by order, with which one begins, the seed becomes seed times 1103515245 and "
            + "12345; bits 16 to 30 of it are got, the VALUE is got modulo 12:");
        for (int seed : new int[] {0, 1, -1, 12345, LEAST, MOST}) {
            int[][] got = drawn(seed, 50);
            for (int v = 0; v < 6; v++) {
                int sum = 0;
                for (int n = 0; n <= 12; n++) {
                    int due = 0;
                    for (int i = 0; i < 50; i++) {
                        due += got[i][v] == n ? 1 : 0;
                    }
                    int stop = stopsIfSame(seed, v, n);
                    Check.due("seed " + seed + ", VARIABLE " + v + " begins with " + n, stop, due);
                    sum += stop;
                }
                Check.due("each begins with 0 to 11", sum, 50);
            }
        }
    }

    /** How many of 50 RUNS begin with v n: those alone stop. */
    private static int stopsIfSame(int seed, int v, int n) {
        PointMaker x = Check.of("block;set a a same 0;if a 1 2;block;stop;block;goto 2;").x;
        x.alter(0, 1, v);
        x.alter(0, 2, 100 + v);
        x.alter(0, 4, n);
        x.lead(0, 5, v);
        return x.agree(seed, 50, 1);
    }

    /** By numbers that do not wrap. */
    private static int[][] drawn(int seed, int n) {
        int[][] all = new int[n][6];
        BigInteger turn = BigInteger.valueOf(seed);
        BigInteger room = BigInteger.ONE.shiftLeft(32);
        for (int i = 0; i < n; i++) {
            for (int v = 0; v < 6; v++) {
                turn = turn.multiply(BigInteger.valueOf(1103515245)).add(BigInteger.valueOf(12345))
                    .mod(room);
                all[i][v] = turn.shiftRight(16).intValue() % 32768 % 12;
            }
        }
        return all;
    }

    private static void agreeStops() {
        Check.sentence("in how many both have the same SAID, the same VALUES of UNKNOWN ones in the end, and both stop or "
            + "neither (what 0; VALUES GIVEN as ever), how many stop (1),");
        // All stop, none stops, some stop.
        PointMaker x = Check.of("block;say a;if b 1 0;block;stop;").x;
        int some = 0;
        for (int[] row : drawn(3, 50)) {
            some += row[1] != 0 ? 1 : 0;
        }
        Check.due("some stop", x.agree(3, 50, 1), some);
        Check.due("all agree", x.agree(3, 50, 0), 50);
        x.give(1, 1);
        Check.due("all stop", x.agree(3, 50, 1), 50);
        Check.due("all agree", x.agree(3, 50, 0), 50);
        x.give(1, 0);
        Check.due("none stops", x.agree(3, 50, 1), 0);
        Check.due("all agree", x.agree(3, 50, 0), 50);
        // VALUES that a seed never tells, and the BEGIN ones that it does not take.
        x = Check.of("block;set a a more 11;if a 1 2;block;stop;block;goto 2;").x;
        x.begin(0, 99);
        Check.due("none is above 11", x.agree(3, 50, 1), 0);
        x.give(0, 12);
        Check.due("GIVEN", x.agree(3, 50, 1), 50);
    }

    private static void agreeSteps() {
        Check.sentence("how many STEPS the program does more, summed (2).");
        PointMaker x = Check.of("block;set a 1;set b c;say b;stop;").x;
        Check.due("none more", x.agree(1, 50, 2), 0);
        x.give(0, 5);
        Check.due("one more each", x.agree(1, 1, 2), 1);
        Check.due("one more each", x.agree(1, 50, 2), 50);
        x.give(1, 5);
        x.give(2, 5);
        Check.due("two more each", x.agree(1, 50, 2), 100);
        // RUNS that are over: those that were done in 300 BLOCKS.
        x = Check.of("block;set a a plus 1;set b 1;goto 0;").x;
        x.give(0, 99);
        Check.due("over", x.agree(1, 2, 2), 600);
        x.give(1, 0);
        Check.due("over", x.agree(1, 50, 2), 30000);
    }

    private static void agreeNone() {
        Check.sentence("BAD; NONE: there are no POINTS.");
        PointMaker x = new PointMaker();
        for (int w = 0; w < 3; w++) {
            Check.due("agree(1, 1, " + w + ")", x.agree(1, 1, w), -4);
        }
        Check.due("agree(1, 0, 0)", x.agree(1, 0, 0), -1);
        Check.due("agree(1, 51, 0)", x.agree(1, 51, 0), -1);
        Check.due("agree(1, 1, 3)", x.agree(1, 1, 3), -1);
        Check.due("agree(1, 1, -1)", x.agree(1, 1, -1), -1);
        x = Check.of("block;set a a less 1;if a 0 1;block;stop;").x;
        x.give(0, 39);
        Check.due("40 POINTS", x.agree(1, 5, 1), 5);
        x.give(0, 40);
        Check.due("41 POINTS", x.agree(1, 5, 1), -4);
    }
}
