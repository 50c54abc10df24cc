/**
 * The edges of what the document says of VARIABLES, BLOCKS and STEPS, of what is GIVEN, KNOWN and READ ahead:
 * promises 6 to 10 and 21 to 24, and their Terms.
 */
public final class ProgramEdgeTest {
    /** So many POINTS as a has, when it is GIVEN, and one. */
    private static final String COUNTDOWN = "block;set a a less 1;if a 0 1;block;say f;stop;";

    public static void main(String[] args) {
        variables();
        blocks();
        steps();
        kinds();
        operands();
        ends();
        givenAtFirst();
        unknown();
        readAhead();
        wiseAtFirst();
        rule();
        ruleFull();
        ruleSums();
        block();
        blockNone();
        step();
        give();
        wise();
        alter();
        alterOfSay();
        lead();
        leadWhereNone();
        keep();
        keepIsCopy();
        back();
        backState();
        Check.finish();
    }

    private static void variables() {
        Check.sentence("VARIABLES 0 to 5 (a to f), with VALUES 0 to 99.");
        PointMaker x = Check.takes("block;say a;say f;stop;", 1);
        Check.due("a", x.step(0, 2), 100);
        Check.due("f", x.step(1, 2), 105);
        Check.refuses("block;say g;stop;", 10, 2);
        int[] good = {0, 5};
        for (int v : good) {
            Check.due("give(" + v + ", 0)", x.give(v, 0), -4);
            Check.due("give(" + v + ", 99)", x.give(v, 99), 0);
            Check.due("give(" + v + ", 100)", x.give(v, 100), -1);
            Check.due("give(" + v + ", 0)", x.give(v, 0), 99);
            Check.due("begin(" + v + ", 99)", x.begin(v, 99), 0);
            Check.due("begin(" + v + ", 100)", x.begin(v, 100), -1);
            Check.due("begin(" + v + ", 0)", x.begin(v, 0), 99);
            Check.due("begin(" + v + ", -1)", x.begin(v, -1), -1);
            Check.due("held(0, " + v + ")", x.held(0, v), 0);
        }
        int[] bad = {-1, 6};
        for (int v : bad) {
            Check.due("give(" + v + ", 0)", x.give(v, 0), -1);
            Check.due("begin(" + v + ", 0)", x.begin(v, 0), -1);
            Check.due("held(0, " + v + ")", x.held(0, v), -1);
            Check.due("told(10 + " + v + ")", x.told(10 + v), -1);
        }
    }

    private static void blocks() {
        Check.sentence("BLOCKS 0 on (8 at most), by order;");
        String seven = "block;goto 6;block;goto 5;block;goto 4;block;goto 3;block;goto 2;block;goto 1;block;goto 0;";
        PointMaker x = Check.takes(seven, 7);
        Check.due("block(6, 2)", x.block(6, 2), 0);
        Check.due("block(7, 2)", x.block(7, 2), -1);
        x = Check.takes(seven + "block;stop;", 8);
        for (int b = 0; b < 7; b++) {
            Check.due("block(" + b + ", 3)", x.block(b, 3), 6 - b);
        }
        Check.due("block(7, 2)", x.block(7, 2), 2);
        Check.due("block(8, 2)", x.block(8, 2), -1);
        Check.refuses(seven + "block;stop;block;stop;", seven.length() + 11, 5);
    }

    private static void steps() {
        Check.sentence("STEPS 0 on (24 at most in all), by order, each in a BLOCK:");
        StringBuilder all = new StringBuilder();
        for (int b = 0; b < 8; b++) {
            all.append("block;");
            for (int i = 0; i < 3; i++) {
                all.append("say ").append(3 * b + i).append(';');
            }
            all.append("stop;");
        }
        PointMaker x = Check.takes(all.toString(), 8);
        Check.due("rule(1)", x.rule(1), 24);
        for (int i = 0; i < 24; i++) {
            Check.due("step(" + i + ", 2)", x.step(i, 2), i);
        }
        Check.due("step(24, 2)", x.step(24, 2), -1);
        for (int b = 0; b < 8; b++) {
            Check.due("block(" + b + ", 0)", x.block(b, 0), 3 * b);
            Check.due("block(" + b + ", 1)", x.block(b, 1), 3);
        }
        String last = "say 23;stop;";
        int at = all.length() - last.length();
        Check.refuses(all.substring(0, at) + "say 1;" + last, at + 6, 5);
    }

    private static void kinds() {
        Check.sentence("set (KIND 0): a TARGET, an OPERAND, an OP, an OPERAND; say (1): an OPERAND.");
        PointMaker x = Check.takes("block;set f 1 more e;say 2;stop;", 1);
        int[][] due = {{0, 5, 1, 3, 104}, {1, -4, 2, -4, -4}};
        for (int i = 0; i < 2; i++) {
            for (int w = 0; w < 5; w++) {
                Check.due("step(" + i + ", " + w + ")", x.step(i, w), due[i][w]);
            }
        }
    }

    private static void operands() {
        Check.sentence("An OPERAND is a NUMBER (0 to 99) or a VARIABLE, told as 100 and it.");
        PointMaker x = Check.takes("block;say 0;say 99;say a;say f;set a 0 plus 99;set a a plus f;stop;", 1);
        int[] due = {0, 99, 100, 105, 0, 100};
        for (int i = 0; i < 6; i++) {
            Check.due("step(" + i + ", 2)", x.step(i, 2), due[i]);
        }
        Check.due("step(4, 4)", x.step(4, 4), 99);
        Check.due("step(5, 4)", x.step(5, 4), 105);
        // 99 is a NUMBER, 100 is a: as a VALUE that is said, and as an OPERAND that is altered.
        x.begin(0, 7);
        x.begin(5, 8);
        int[][] said = {{0, 0}, {99, 99}, {100, 7}, {105, 8}};
        for (int[] pair : said) {
            x = Check.takes("block;say 50;stop;", 1);
            x.begin(0, 7);
            x.begin(5, 8);
            Check.due("alter(0, 2, " + pair[0] + ")", x.alter(0, 2, pair[0]), 50);
            x.run();
            Check.due("told(0)", x.told(0), pair[1] + 1);
        }
        for (int v : new int[] {-1, 106}) {
            Check.due("alter(0, 2, " + v + ")", x.alter(0, 2, v), -1);
        }
    }

    private static void ends() {
        Check.sentence("END of a BLOCK: goto (0) a BLOCK; if (1) a VARIABLE, a BLOCK, or else another; stop (2).");
        PointMaker x = Check.takes("block;goto 2;block;if f 2 0;block;stop;", 3);
        int[][] due = {{0, 2, -4, -4}, {1, 2, 0, 5}, {2, -4, -4, -4}};
        for (int b = 0; b < 3; b++) {
            for (int w = 2; w < 6; w++) {
                Check.due("block(" + b + ", " + w + ")", x.block(b, w), due[b][w - 2]);
            }
        }
        // Another, or the same one twice, or itself.
        x = Check.takes("block;if a 0 0;", 1);
        Check.due("block(0, 3)", x.block(0, 3), 0);
        Check.due("block(0, 4)", x.block(0, 4), 0);
    }

    private static void givenAtFirst() {
        Check.sentence("GIVEN is of each VARIABLE a VALUE, or none (none at first).");
        PointMaker x = new PointMaker();
        Check.due("rule(3)", x.rule(3), 0);
        for (int v = 0; v < 6; v++) {
            Check.due("give(" + v + ", 0)", x.give(v, 0), -4);
            Check.due("rule(3)", x.rule(3), (2 << v) - 1);
        }
        for (int v = 0; v < 6; v++) {
            Check.due("give(" + v + ", -1)", x.give(v, -1), 0);
        }
        Check.due("rule(3)", x.rule(3), 0);
    }

    private static void unknown() {
        Check.sentence("UNKNOWN are the VARIABLES that have none GIVEN, and each TARGET of a set with an OPERAND "
            + "that is UNKNOWN; the others are KNOWN.");
        PointMaker x = new PointMaker();
        Check.due("all", x.rule(2), 63);
        x.give(2, 0);
        Check.due("all but c", x.rule(2), 59);
        // The first OPERAND, the second one; a say and an if make nothing UNKNOWN.
        Check.due("first", unknownOf("block;set a f;stop;"), 33);
        Check.due("second", unknownOf("block;set a 0 plus f;stop;"), 33);
        Check.due("NUMBERS", unknownOf("block;set a 5 plus 5;stop;"), 32);
        Check.due("KNOWN ones", unknownOf("block;set a b plus c;stop;"), 32);
        Check.due("say", unknownOf("block;say f;stop;"), 32);
        Check.due("if", unknownOf("block;if f 1 2;block;set a 1;stop;block;set a 2;stop;"), 32);
        Check.due("f of itself", unknownOf("block;set f 1;stop;"), 32);
        // A chain, with and against the order of the STEPS.
        Check.due("chain", unknownOf("block;set e f;set d e;set c d;set b c;set a b;stop;"), 63);
        Check.due("chain", unknownOf("block;set a b;set b c;set c d;set d e;set e f;stop;"), 63);
        Check.due("broken chain", unknownOf("block;set a b;set b c;set d e;set e f;stop;"), 56);
        // Whatever the OP does with it, and wherever the set is.
        Check.due("less", unknownOf("block;set a 0 less f;stop;"), 33);
        Check.due("same", unknownOf("block;set a f same f;stop;"), 33);
        Check.due("behind stop", unknownOf("block;stop;block;set a f;stop;"), 33);
        // One set that does is enough, a later one of NUMBERS does not make it KNOWN again.
        Check.due("later one", unknownOf("block;set a f;set a 1;stop;"), 33);
    }

    /** With all GIVEN but f. */
    private static int unknownOf(String text) {
        PointMaker x = Check.of(text).x;
        for (int v = 0; v < 5; v++) {
            x.give(v, 1);
        }
        return x.rule(2);
    }

    private static void readAhead() {
        Check.sentence("READ ahead at a BLOCK are the VARIABLES that are an OPERAND, or that of an if, in it or "
            + "on a way from it, and are on that way not a TARGET ahead of that.");
        Check.due("none", aheadOf("block;stop;"), 0);
        Check.due("NUMBERS", aheadOf("block;say 5;set a 6 plus 7;stop;"), 0);
        Check.due("say", aheadOf("block;say f;stop;"), 32);
        Check.due("first OPERAND", aheadOf("block;set a b;stop;"), 2);
        Check.due("second OPERAND", aheadOf("block;set a 1 less b;stop;"), 2);
        Check.due("if", aheadOf("block;if e 0 0;"), 16);
        Check.due("a TARGET alone", aheadOf("block;set a 1;stop;"), 0);
        // Ahead of its TARGET, in the same set, behind it.
        Check.due("ahead", aheadOf("block;say a;set a 1;stop;"), 1);
        Check.due("the same", aheadOf("block;set a a;stop;"), 1);
        Check.due("behind", aheadOf("block;set a 1;say a;stop;"), 0);
        Check.due("of the if", aheadOf("block;set a 1;if a 0 0;"), 0);
        // On a way: goto, either way of an if; a TARGET on one way does not hide the other.
        Check.due("goto", aheadOf("block;goto 1;block;say d;stop;"), 8);
        Check.due("goto behind a TARGET", aheadOf("block;set d 1;goto 1;block;say d;stop;"), 0);
        Check.due("first way", aheadOf("block;if a 1 2;block;say b;stop;block;stop;"), 3);
        Check.due("second way", aheadOf("block;if a 1 2;block;stop;block;say b;stop;"), 3);
        Check.due("hidden on one", aheadOf("block;if a 1 2;block;set b 1;goto 3;block;goto 3;block;say b;stop;"), 3);
        Check.due("hidden on both",
            aheadOf("block;if a 1 2;block;set b 1;goto 3;block;set b 2;goto 3;block;say b;stop;"), 1);
        // On a way round: ahead of its TARGET, when it comes by again.
        Check.due("round", aheadOf("block;set a 1;goto 1;block;say b;set b 2;goto 0;"), 2);
        Check.due("no way there", aheadOf("block;stop;block;say a;goto 0;"), 0);
        PointMaker x = Check.of("block;stop;block;say a;goto 0;").x;
        Check.due("block(1, 6)", x.block(1, 6), 1);
        // A way round, of the first two or the last two, does not keep what is no longer read on it.
        for (int b = 0; b < 8; b += 6) {
            int c = b + 1;
            String two = "block;say a;goto " + c + ";block;say b;goto " + b + ";";
            String six = "block;stop;".repeat(6);
            PointMaker round = Check.of(b == 0 ? two + six : six + two).x;
            Check.due("block(" + b + ", 6)", round.block(b, 6), 3);
            Check.due("block(" + c + ", 6)", round.block(c, 6), 3);
            round.alter(0, 2, 50);
            Check.due("block(" + b + ", 6)", round.block(b, 6), 2);
            Check.due("block(" + c + ", 6)", round.block(c, 6), 2);
            round.alter(1, 2, 50);
            Check.due("block(" + b + ", 6)", round.block(b, 6), 0);
            Check.due("block(" + c + ", 6)", round.block(c, 6), 0);
        }
        // What is GIVEN, UNKNOWN or WISE does not matter.
        x.give(0, 1);
        x.wise(0);
        Check.due("block(1, 6)", x.block(1, 6), 1);
        Check.due("eight in a row", aheadOf("block;goto 1;block;goto 2;block;goto 3;block;goto 4;block;goto 5;"
            + "block;goto 6;block;goto 7;block;if f 0 0;"), 32);
    }

    private static int aheadOf(String text) {
        return Check.of(text).x.block(0, 6);
    }

    private static void wiseAtFirst() {
        Check.sentence("WISE (0, 1; 1 at first).");
        Check.due("at first", new PointMaker().rule(4), 1);
        Check.due("at first", new PointMaker().wise(1), 1);
        PointMaker x = new PointMaker();
        Check.due("wise(0)", x.wise(0), 1);
        Check.due("rule(4)", x.rule(4), 0);
        Check.due("wise(1)", x.wise(1), 0);
        Check.due("rule(4)", x.rule(4), 1);
    }

    private static void rule() {
        Check.sentence("0 BLOCKS, 1 STEPS, 2 which VARIABLES are UNKNOWN (bits), 3 which have a VALUE GIVEN (bits), "
            + "4 WISE,");
        PointMaker x = new PointMaker();
        int[] none = {0, 0, 63, 0, 1, 0, 0, 0};
        for (int w = 0; w < 8; w++) {
            Check.due("rule(" + w + ") without BLOCKS", x.rule(w), none[w]);
        }
        x = Check.takes("block;set a b;stop;block;say 1;say 2;stop;", 2);
        Check.due("rule(0)", x.rule(0), 2);
        Check.due("rule(1)", x.rule(1), 3);
        x.give(0, 0);
        x.give(5, 99);
        Check.due("rule(2)", x.rule(2), 31);
        Check.due("rule(3)", x.rule(3), 33);
        x.give(1, 0);
        Check.due("rule(2)", x.rule(2), 28);
        Check.due("rule(3)", x.rule(3), 35);
        x.wise(0);
        Check.due("rule(4)", x.rule(4), 0);
        for (int w : new int[] {-1, 8, 9, Integer.MIN_VALUE, Integer.MAX_VALUE}) {
            Check.due("rule(" + w + ")", x.rule(w), -1);
        }
    }

    private static void ruleFull() {
        Check.sentence("5 POINTS (FULL: they would be more than 40),");
        PointMaker x = Check.takes(COUNTDOWN, 2);
        Check.due("nothing GIVEN", x.rule(5), 2);
        int[][] due = {{1, 2}, {2, 3}, {38, 39}, {39, 40}, {40, -3}, {41, -3}, {99, -3}, {39, 40}};
        for (int[] pair : due) {
            x.give(0, pair[0]);
            Check.due("rule(5), a is " + pair[0], x.rule(5), pair[1]);
        }
        x.give(0, 99);
        x.wise(0);
        Check.due("FULL", x.rule(5), -3);
        x.give(0, -1);
        Check.due("no longer FULL", x.rule(5), 2);
        Check.due("no BLOCKS", new PointMaker().rule(5), 0);
    }

    private static void ruleSums() {
        Check.sentence("6 STEPS LEFT of all POINTS, 7 how many bytes SHOWN of all POINTS have. BAD.");
        PointMaker x = Check.takes(COUNTDOWN, 2);
        Check.due("rule(6)", x.rule(6), 2);
        Check.due("rule(7)", x.rule(7), "p0: set a a less 1; if a p0 p1;p1: say f; stop;".length());
        x.give(0, 2);
        Check.due("rule(6)", x.rule(6), 1);
        Check.due("rule(7)", x.rule(7), "p0: goto p1;p1: goto p2;p2: say f; stop;".length());
        x.give(0, 39);
        Check.due("rule(6)", x.rule(6), 1);
        Check.due("rule(7)", x.rule(7), 9 * 12 + 13 + 29 * 14 + 17);
        // No POINTS: none is LEFT, nothing is SHOWN.
        x.give(0, 40);
        Check.due("rule(6)", x.rule(6), 0);
        Check.due("rule(7)", x.rule(7), 0);
        // 24 of one BLOCK in each of many POINTS.
        x = Check.takes("block;set a a less 1;" + "say f;".repeat(23) + "if a 0 1;block;stop;", 2);
        x.give(0, 39);
        Check.due("rule(6)", x.rule(6), 39 * 23);
    }

    private static void block() {
        Check.sentence("Of a BLOCK: 0 its first STEP (NONE), 1 how many it has, 2 its END, 3 its first BLOCK (NONE), "
            + "4 its second (NONE), 5 its VARIABLE (NONE), 6 which VARIABLES are READ ahead at it (bits). BAD.");
        PointMaker x = Check.takes("block;set a b;say c;if d 1 0;block;goto 0;", 2);
        int[][] due = {{0, 2, 1, 1, 0, 3, 2 + 4 + 8}, {-4, 0, 0, 0, -4, -4, 2 + 4 + 8}};
        for (int b = 0; b < 2; b++) {
            for (int w = 0; w < 7; w++) {
                Check.due("block(" + b + ", " + w + ")", x.block(b, w), due[b][w]);
            }
        }
        for (int w : new int[] {-1, 7, Integer.MIN_VALUE, Integer.MAX_VALUE}) {
            Check.due("block(0, " + w + ")", x.block(0, w), -1);
        }
        for (int b : new int[] {-1, 2, 7, 8, Integer.MIN_VALUE, Integer.MAX_VALUE}) {
            for (int w = -1; w < 8; w++) {
                Check.due("block(" + b + ", " + w + ")", x.block(b, w), -1);
            }
        }
    }

    private static void blockNone() {
        // The first STEP of a BLOCK that has none, also where a BLOCK behind it has one.
        PointMaker x = Check.takes("block;stop;block;say 1;stop;block;stop;block;say 2;goto 0;", 4);
        int[] first = {-4, 0, -4, 1};
        for (int b = 0; b < 4; b++) {
            Check.due("block(" + b + ", 0)", x.block(b, 0), first[b]);
            Check.due("block(" + b + ", 1)", x.block(b, 1), first[b] < 0 ? 0 : 1);
        }
    }

    private static void step() {
        Check.sentence("Of a STEP: 0 KIND, 1 TARGET (NONE: say), 2 its first OPERAND (of say its only one), "
            + "3 OP (NONE: say), 4 its second one (NONE: say). BAD.");
        PointMaker x = Check.takes("block;say 0;set a 0 plus 0;stop;", 1);
        int[][] due = {{1, -4, 0, -4, -4}, {0, 0, 0, 0, 0}};
        for (int i = 0; i < 2; i++) {
            for (int w = 0; w < 5; w++) {
                Check.due("step(" + i + ", " + w + ")", x.step(i, w), due[i][w]);
            }
            for (int w : new int[] {-1, 5, Integer.MIN_VALUE, Integer.MAX_VALUE}) {
                Check.due("step(" + i + ", " + w + ")", x.step(i, w), -1);
            }
        }
        for (int i : new int[] {-1, 2, 23, 24, 25, Integer.MIN_VALUE, Integer.MAX_VALUE}) {
            for (int w = 0; w < 5; w++) {
                Check.due("step(" + i + ", " + w + ")", x.step(i, w), -1);
            }
        }
    }

    private static void give() {
        Check.sentence("The VALUE of a VARIABLE that is GIVEN becomes x (0 to 99; -1: none): what it was "
            + "(NONE: none). BAD.");
        PointMaker x = new PointMaker();
        for (int v = 0; v < 6; v++) {
            Check.due("give(v, -1)", x.give(v, -1), -4);
            Check.due("give(v, 0)", x.give(v, 0), -4);
            Check.due("give(v, 99)", x.give(v, 99), 0);
            for (int bad : new int[] {-2, -4, 100, Integer.MIN_VALUE, Integer.MAX_VALUE}) {
                Check.due("give(v, " + bad + ")", x.give(v, bad), -1);
            }
            Check.due("give(v, 1)", x.give(v, 1), 99);
            Check.due("give(v, -1)", x.give(v, -1), 1);
            Check.due("rule(3)", x.rule(3), 0);
        }
        for (int v : new int[] {-1, 6, Integer.MIN_VALUE, Integer.MAX_VALUE}) {
            Check.due("give(" + v + ", 1)", x.give(v, 1), -1);
            Check.due("give(" + v + ", -1)", x.give(v, -1), -1);
        }
        Check.due("rule(3)", x.rule(3), 0);
    }

    private static void wise() {
        Check.sentence("WISE becomes v: what it was. BAD.");
        PointMaker x = new PointMaker();
        for (int v : new int[] {-1, 2, Integer.MIN_VALUE, Integer.MAX_VALUE}) {
            Check.due("wise(" + v + ")", x.wise(v), -1);
        }
        Check.due("wise(1)", x.wise(1), 1);
        Check.due("wise(0)", x.wise(0), 1);
        Check.due("wise(2)", x.wise(2), -1);
        Check.due("wise(0)", x.wise(0), 0);
        Check.due("wise(1)", x.wise(1), 0);
        // What is found follows it at once.
        x = Check.takes("block;if b 1 2;block;set a 5;goto 3;block;set a 6;goto 3;block;stop;", 4);
        x.give(0, 9);
        Check.due("rule(5)", x.rule(5), 4);
        x.wise(0);
        Check.due("rule(5)", x.rule(5), 5);
        x.wise(1);
        Check.due("rule(5)", x.rule(5), 4);
    }

    private static void alter() {
        Check.sentence("Part what (as of step(): 1 to 4) of a STEP becomes v: what it was.");
        // what, the least, the most, that with which it begins
        int[][] parts = {{1, 0, 5, 2}, {2, 0, 105, 50}, {3, 0, 3, 1}, {4, 0, 105, 60}};
        for (int[] part : parts) {
            PointMaker x = Check.takes("block;set c 50 less 60;say 1;stop;", 1);
            int w = part[0];
            for (int v : new int[] {part[1] - 1, part[2] + 1, Integer.MIN_VALUE, Integer.MAX_VALUE}) {
                Check.due("alter(0, " + w + ", " + v + ")", x.alter(0, w, v), -1);
            }
            Check.due("step(0, " + w + ")", x.step(0, w), part[3]);
            Check.due("alter to the least", x.alter(0, w, part[1]), part[3]);
            Check.due("alter to the most", x.alter(0, w, part[2]), part[1]);
            Check.due("step(0, " + w + ")", x.step(0, w), part[2]);
            Check.due("alter back", x.alter(0, w, part[3]), part[2]);
            int[] due = {0, 2, 50, 1, 60};
            for (int other = 0; other < 5; other++) {
                Check.due("step(0, " + other + ")", x.step(0, other), due[other]);
            }
            Check.due("step(1, 2)", x.step(1, 2), 1);
        }
        // From NUMBER to VARIABLE and back: 99, 100.
        PointMaker x = Check.takes("block;say 99;stop;", 1);
        Check.due("alter(0, 2, 100)", x.alter(0, 2, 100), 99);
        Check.due("READ ahead", x.block(0, 6), 1);
        Check.due("alter(0, 2, 99)", x.alter(0, 2, 99), 100);
        Check.due("READ ahead", x.block(0, 6), 0);
        Check.due("count(4)", x.count(4), 99);
        // A TARGET, an OP, an OPERAND that is altered counts for what is KNOWN, and in a RUN.
        x = Check.takes("block;set a b;say c;stop;", 1);
        x.give(0, 1);
        x.give(2, 1);
        Check.due("rule(2)", x.rule(2), 63 - 4);
        x.alter(0, 1, 2);
        Check.due("rule(2)", x.rule(2), 63 - 1);
        x.begin(1, 40);
        x.alter(0, 4, 2);
        x.alter(0, 3, 1);
        x.run();
        Check.due("told(0)", x.told(0), 39);
    }

    private static void alterOfSay() {
        Check.sentence("BAD: also 1, 3, 4 of say.");
        PointMaker x = Check.takes("block;set a 1;say 2;stop;", 1);
        for (int w : new int[] {-1, 0, 5, Integer.MIN_VALUE, Integer.MAX_VALUE}) {
            Check.due("alter(0, " + w + ", 0)", x.alter(0, w, 0), -1);
            Check.due("alter(1, " + w + ", 0)", x.alter(1, w, 0), -1);
        }
        for (int w : new int[] {1, 3, 4}) {
            Check.due("alter(1, " + w + ", 0)", x.alter(1, w, 0), -1);
            Check.due("alter(1, " + w + ", 1)", x.alter(1, w, 1), -1);
            Check.due("step(1, " + w + ")", x.step(1, w), -4);
            Check.due("alter(0, " + w + ", 0)", x.alter(0, w, 0), 0);
        }
        Check.due("alter(1, 2, 0)", x.alter(1, 2, 0), 2);
        for (int i : new int[] {-1, 2, 24, Integer.MIN_VALUE, Integer.MAX_VALUE}) {
            Check.due("alter(" + i + ", 2, 0)", x.alter(i, 2, 0), -1);
        }
    }

    private static void lead() {
        Check.sentence("Of a BLOCK the first BLOCK (what 3), the second (4) of goto, if, the VARIABLE (5) of if "
            + "becomes v: what it was.");
        PointMaker x = Check.takes("block;if c 1 2;block;goto 2;block;stop;", 3);
        int[][] parts = {{0, 3, 1, 2}, {0, 4, 2, 2}, {0, 5, 2, 5}, {1, 3, 2, 2}};
        for (int[] part : parts) {
            int b = part[0];
            int w = part[1];
            for (int v : new int[] {-1, part[3] + 1, Integer.MIN_VALUE, Integer.MAX_VALUE}) {
                Check.due("lead(" + b + ", " + w + ", " + v + ")", x.lead(b, w, v), -1);
            }
            Check.due("block(" + b + ", " + w + ")", x.block(b, w), part[2]);
            Check.due("lead to 0", x.lead(b, w, 0), part[2]);
            Check.due("lead to the most", x.lead(b, w, part[3]), 0);
            Check.due("block(" + b + ", " + w + ")", x.block(b, w), part[3]);
            Check.due("lead back", x.lead(b, w, part[2]), part[3]);
        }
        // What was asked ahead follows at once: READ ahead, POINTS, what is SHOWN.
        Check c = Check.of("block;if a 1 2;block;say b;stop;block;say c;stop;");
        Check.due("block(0, 6)", c.x.block(0, 6), 7);
        Check.due("p0", c.shown(0), "p0: if a p1 p2;");
        c.x.lead(0, 4, 0);
        Check.due("block(0, 6)", c.x.block(0, 6), 3);
        Check.due("p0", c.shown(0), "p0: if a p1 p0;");
        Check.due("rule(5)", c.x.rule(5), 2);
        c.x.lead(0, 3, 2);
        Check.due("p1", c.shown(1), "p1: say c; stop;");
        c.x.lead(0, 5, 5);
        Check.due("block(0, 6)", c.x.block(0, 6), 36);
        Check.due("p0", c.shown(0), "p0: if f p1 p0;");
        // With all eight, 7 is one too.
        x = Check.takes("block;goto 0;" + "block;stop;".repeat(7), 8);
        Check.due("lead(0, 3, 8)", x.lead(0, 3, 8), -1);
        Check.due("lead(0, 3, 7)", x.lead(0, 3, 7), 0);
        Check.due("run() stops now", x.run(), 0);
        Check.due("rule(5)", x.rule(5), 2);
    }

    private static void leadWhereNone() {
        Check.sentence("BAD: also where there is none.");
        PointMaker x = Check.takes("block;if c 1 2;block;goto 2;block;stop;", 3);
        Check.due("the second of goto", x.lead(1, 4, 0), -1);
        Check.due("the VARIABLE of goto", x.lead(1, 5, 0), -1);
        for (int w = 3; w < 6; w++) {
            Check.due("stop has no " + w, x.lead(2, w, 0), -1);
            Check.due("still none", x.block(2, w), -4);
            Check.due("if has one", x.lead(0, w, 0), w == 3 ? 1 : 2);
        }
        Check.due("the first of goto", x.lead(1, 3, 0), 2);
        for (int w : new int[] {-1, 0, 1, 2, 6, Integer.MIN_VALUE, Integer.MAX_VALUE}) {
            Check.due("lead(0, " + w + ", 0)", x.lead(0, w, 0), -1);
        }
        for (int b : new int[] {-1, 3, 8, Integer.MIN_VALUE, Integer.MAX_VALUE}) {
            Check.due("lead(" + b + ", 3, 0)", x.lead(b, 3, 0), -1);
        }
        Check.due("no BLOCKS", new PointMaker().lead(0, 3, 0), -1);
    }

    private static void keep() {
        Check.sentence("IMAGE k (0, 1) is BLOCKS, STEPS, what is GIVEN, WISE: whether there was one (1, 0). BAD.");
        PointMaker x = new PointMaker();
        for (int k : new int[] {-1, 2, Integer.MIN_VALUE, Integer.MAX_VALUE}) {
            Check.due("keep(" + k + ")", x.keep(k), -1);
        }
        Check.due("count(0)", x.count(0), 0);
        Check.due("keep(1)", x.keep(1), 0);
        Check.due("count(0)", x.count(0), 1);
        Check.due("keep(1)", x.keep(1), 1);
        Check.due("keep(0)", x.keep(0), 0);
        Check.due("keep(0)", x.keep(0), 1);
        Check.due("count(0)", x.count(0), 2);
    }

    private static void keepIsCopy() {
        PointMaker x = Check.takes("block;set a 1;if b 1 0;block;stop;", 2);
        x.give(1, 11);
        x.wise(0);
        x.keep(0);
        // Each of these is in the IMAGE, and none of what is changed later reaches it.
        x.alter(0, 2, 77);
        x.lead(0, 5, 3);
        x.lead(0, 4, 1);
        x.give(1, -1);
        x.give(4, 5);
        x.wise(1);
        x.keep(1);
        Check.due("back(0)", x.back(0), 2);
        Check.due("STEP", x.step(0, 2), 1);
        Check.due("VARIABLE", x.block(0, 5), 1);
        Check.due("second BLOCK", x.block(0, 4), 0);
        Check.due("GIVEN", x.rule(3), 2);
        Check.due("its VALUE", x.give(1, 11), 11);
        Check.due("WISE", x.rule(4), 0);
        x.alter(0, 2, 78);
        Check.due("back(0)", x.back(0), 2);
        Check.due("STEP", x.step(0, 2), 1);
        Check.due("back(1)", x.back(1), 2);
        Check.due("STEP", x.step(0, 2), 77);
        Check.due("GIVEN", x.rule(3), 16);
        Check.due("WISE", x.rule(4), 1);
        // keep() over one that there was: the later one stays.
        Check.due("keep(0)", x.keep(0), 1);
        x.alter(0, 2, 5);
        Check.due("back(0)", x.back(0), 2);
        Check.due("STEP", x.step(0, 2), 77);
    }

    private static void back() {
        Check.sentence("All is as IMAGE k (there was no RUN): BLOCKS.");
        PointMaker x = Check.takes("block;say a;stop;block;stop;", 2);
        x.begin(0, 3);
        x.feed('q');
        x.run();
        x.keep(0);
        Check.due("keep() leaves the RUN", x.told(0), 4);
        x.begin(0, 4);
        Check.due("back(0)", x.back(0), 2);
        Check.due("told(0)", x.told(0), 0);
        Check.due("told(1)", x.told(1), -4);
        Check.due("told(15)", x.told(15), -4);
        // VALUES with which VARIABLES begin and THE TAPE are no part of it; the IMAGE is there still.
        Check.due("count(3)", x.count(3), 4);
        Check.due("count(1)", x.count(1), 1);
        Check.due("count(0)", x.count(0), 1);
        Check.due("back(0) again", x.back(0), 2);
        // What was asked ahead is asked anew: UNKNOWN, READ ahead, POINTS, what is SHOWN.
        Check c = Check.of("block;say a;set b a;goto 1;block;stop;");
        c.x.keep(1);
        c.x.give(0, 9);
        c.x.give(1, 9);
        c.x.lead(0, 3, 0);
        Check.due("rule(2)", c.x.rule(2), 60);
        Check.due("rule(5)", c.x.rule(5), 1);
        Check.due("p0", c.shown(0), "p0: say 9; goto p0;");
        Check.due("back(1)", c.x.back(1), 2);
        Check.due("rule(2)", c.x.rule(2), 63);
        Check.due("rule(5)", c.x.rule(5), 2);
        Check.due("p0", c.shown(0), "p0: say a; set b a plus 0; goto p1;");
        PointMaker none = new PointMaker();
        none.keep(1);
        Check.due("back(1) without BLOCKS", none.back(1), 0);
        PointMaker eight = Check.takes("block;stop;".repeat(8), 8);
        eight.keep(1);
        Check.due("back(1) with eight", eight.back(1), 8);
    }

    private static void backState() {
        Check.sentence("BAD; STATE: there is none.");
        PointMaker x = Check.takes("block;say a;stop;", 1);
        x.run();
        for (int k : new int[] {-1, 2, Integer.MIN_VALUE, Integer.MAX_VALUE}) {
            Check.due("back(" + k + ")", x.back(k), -1);
        }
        Check.due("back(0)", x.back(0), -2);
        Check.due("back(1)", x.back(1), -2);
        Check.due("the RUN stays", x.told(3), 1);
        x.keep(1);
        Check.due("back(0)", x.back(0), -2);
        Check.due("the RUN stays", x.told(3), 1);
        Check.due("back(1)", x.back(1), 1);
        Check.due("there was no RUN", x.told(3), -4);
    }
}
