/** Promises 1 to 5: a new object, feed, end, text, fault. */
public final class TextTest {
    public static void main(String[] args) {
        newObject();
        feedAndEnd();
        tokens();
        noToken();
        misplaced();
        outOfBounds();
        tooMany();
        noBlock();
        firstMet();
        tellsAll();
        Check.finish();
    }

    private static void newObject() {
        PointMaker x = new PointMaker();
        Check.due("rule(0)", x.rule(0), 0);
        Check.due("rule(1)", x.rule(1), 0);
        Check.due("rule(2)", x.rule(2), 63);
        Check.due("rule(3)", x.rule(3), 0);
        Check.due("rule(4)", x.rule(4), 1);
        Check.due("rule(5)", x.rule(5), 0);
        Check.due("rule(6)", x.rule(6), 0);
        Check.due("rule(7)", x.rule(7), 0);
        Check.due("block(0, 0)", x.block(0, 0), -1);
        Check.due("step(0, 0)", x.step(0, 0), -1);
        Check.due("point(0, 0)", x.point(0, 0), -1);
        Check.due("fault()", x.fault(), 0);
        Check.due("torn()", x.torn(), 0);
        for (int i = 0; i < 5; i++) {
            Check.due("count(" + i + ")", x.count(i), i == 2 ? -4 : 0);
        }
        for (int k = 0; k < 4; k++) {
            Check.due("lay on nothing", x.lay(k, 0, 1), -11);
        }
        for (int k = 0; k < 2; k++) {
            Check.due("back to none", x.back(k), -2);
        }
    }

    private static void feedAndEnd() {
        PointMaker x = new PointMaker();
        Check.due("feed(-1)", x.feed(-1), -1);
        Check.due("feed(128)", x.feed(128), -1);
        Check.due("feed(0)", x.feed(0), 1);
        Check.due("feed(127)", x.feed(127), 2);
        Check.due("end(3)", x.end(3), -1);
        Check.due("end(-1)", x.end(-1), -1);
        Check.due("end(1)", x.end(1), 2);
        Check.due("end(1)", x.end(1), 1);
        Check.due("end(0)", x.end(0), 1);
        Check.due("end(0)", x.end(0), 0);
        for (int i = 1; i <= 320; i++) {
            Check.due("feed " + i, x.feed(' '), i);
        }
        Check.due("feed 321", x.feed(' '), -3);
        Check.due("feed 321, bad", x.feed(128), -1);
        Check.due("count(1)", x.count(1), 320);
        Check.due("end(319)", x.end(319), 320);
        Check.due("feed 320", x.feed('a'), 320);
        Check.due("text()", x.text(), -10 - 319);
        Check.due("fault()", x.fault(), 2);
        Check.due("feed", x.feed(' '), 1);
    }

    private static void tokens() {
        Check c = new Check();
        c.taken("", 0);
        c.taken("   ", 0);
        c.taken("block;stop;", 1);
        c.taken("  block  ;  stop  ;  ", 1);
        c.taken("block;set a b plus c;say d;if e 0 1;block;goto 07;block;stop;block;stop;block;stop;block;stop;"
            + "block;stop;block;stop;", 8);
        Check.due("07", c.x.block(1, 3), 7);
        // Blanks are needed only where two TOKENS would be one.
        c.taken("block;say 0;stop;", 1);
        Check.due("say 0", c.x.step(0, 2), 0);
        c.taken("block;set a1plus 2;say99;if f0 00;", 1);
        Check.due("step(0, 2)", c.x.step(0, 2), 1);
        Check.due("step(0, 4)", c.x.step(0, 4), 2);
        Check.due("step(1, 2)", c.x.step(1, 2), 99);
        Check.due("block(0, 4)", c.x.block(0, 4), 0);
    }

    private static void noToken() {
        Check.refuses("A", 0, 1);
        Check.refuses("  block;\tstop;", 8, 1);
        Check.refuses("block;say 100;stop;", 10, 1);
        Check.refuses("block;say 001;stop;", 10, 1);
        Check.refuses("block;say 1:", 11, 1);
        Check.refuses("123", 0, 1);
        Check.refuses("block;stop;" + (char) 0, 11, 1);
        Check.refuses("block;set a{", 11, 1);
        Check.refuses("block;set a`", 11, 1);
        Check.refuses("block;set a/", 11, 1);
    }

    private static void misplaced() {
        Check.refuses("blocks;stop;", 0, 2);
        Check.refuses("bloc", 0, 2);
        Check.refuses("z", 0, 2);
        Check.refuses("1", 0, 2);
        Check.refuses(";", 0, 2);
        Check.refuses("stop;", 0, 2);
        Check.refuses("block", 5, 2);
        Check.refuses("block  ", 7, 2);
        Check.refuses("block stop;", 6, 2);
        Check.refuses("block;", 6, 2);
        Check.refuses("block;block;stop;", 6, 2);
        Check.refuses("block;;", 6, 2);
        Check.refuses("block;5;", 6, 2);
        Check.refuses("block;set", 9, 2);
        Check.refuses("block;set 1 2;stop;", 10, 2);
        Check.refuses("block;set ab 2;stop;", 10, 2);
        Check.refuses("block;set g 2;stop;", 10, 2);
        Check.refuses("block;set a g;stop;", 12, 2);
        Check.refuses("block;set a plus 1;stop;", 12, 2);
        Check.refuses("block;set a b c;stop;", 14, 2);
        Check.refuses("block;set a b plus;stop;", 18, 2);
        Check.refuses("block;set a b plus plus;stop;", 19, 2);
        Check.refuses("block;set a b plus 1 less 2;stop;", 21, 2);
        Check.refuses("block;say g;stop;", 10, 2);
        Check.refuses("block;say a b;stop;", 12, 2);
        Check.refuses("block;goto a;", 11, 2);
        Check.refuses("block;goto;", 10, 2);
        Check.refuses("block;goto 0 0;", 13, 2);
        Check.refuses("block;if 0 0 0;", 9, 2);
        Check.refuses("block;if a a 0;", 11, 2);
        Check.refuses("block;if a 0;", 12, 2);
        Check.refuses("block;if a 0 0 0;", 15, 2);
        Check.refuses("block;stop", 10, 2);
        Check.refuses("block;stop;;", 11, 2);
        Check.refuses("block;stop;stop;", 11, 2);
        Check.refuses("block;stop;say 1;", 11, 2);
    }

    private static void outOfBounds() {
        Check.refuses("block;goto 8;", 11, 3);
        Check.refuses("block;goto 99;", 11, 3);
        Check.refuses("block;if a 8 0;", 11, 3);
        Check.refuses("block;if a 0 10;", 13, 3);
    }

    private static void tooMany() {
        String eight = "block;stop;".repeat(8);
        Check.takes(eight, 8);
        Check.refuses(eight + "block;stop;", 88, 5);
        Check.refuses(eight + "  block", 90, 5);
        Check.refuses(eight + "blocks", 88, 2);
        String steps = "say 1;".repeat(24);
        PointMaker x = Check.takes("block;" + steps + "stop;", 1);
        Check.due("rule(1)", x.rule(1), 24);
        Check.refuses("block;" + steps + "say 1;stop;", 150, 5);
        Check.refuses("block;" + steps + "set $", 150, 5);
        // The 24 are those of all BLOCKS.
        Check.refuses("block;say 1;stop;block;" + steps + "stop;", 23 + 23 * 6, 5);
        Check.takes("block;say 1;stop;block;" + "say 1;".repeat(23) + "stop;", 2);
    }

    private static void noBlock() {
        Check.refuses("block;goto 1;", 13, 6);
        Check.refuses("block;goto 1;  ", 15, 6);
        Check.refuses("block;if a 0 1;", 15, 6);
        Check.refuses("block;if a 1 0;", 15, 6);
        Check.refuses("block;goto 7;block;stop;", 24, 6);
        Check.takes("block;goto 1;block;goto 0;", 2);
    }

    private static void firstMet() {
        // A TOKEN is read when the one before has been taken.
        Check.refuses("block;goto 8$", 11, 3);
        Check.refuses("block;set g$", 10, 2);
        Check.refuses("block;say a$", 11, 1);
        Check.refuses("block;goto 1;$", 13, 1);
        Check.refuses("block;goto 1;x", 13, 2);
        Check.refuses("block;set a 1 100", 14, 1);
    }

    private static void tellsAll() {
        Check c = Check.of("block;set a b;goto 0;");
        c.x.give(1, 5);
        c.x.wise(0);
        c.x.begin(2, 9);
        c.x.run();
        c.x.keep(0);
        c.x.sheet(0, 2, 3);
        c.refused("block;", 6, 2);
        Check.due("rule(0)", c.x.rule(0), 1);
        Check.due("rule(3)", c.x.rule(3), 2);
        Check.due("rule(4)", c.x.rule(4), 0);
        Check.due("told(2)", c.x.told(2), 300);
        Check.due("count(0)", c.x.count(0), 1);
        c.taken("block;stop;block;stop;", 2);
        Check.due("rule(1)", c.x.rule(1), 0);
        Check.due("rule(3)", c.x.rule(3), 0);
        Check.due("rule(4)", c.x.rule(4), 1);
        Check.due("told(2)", c.x.told(2), -4);
        Check.due("told(0)", c.x.told(0), 0);
        Check.due("count(0)", c.x.count(0), 0);
        Check.due("back(0)", c.x.back(0), -2);
        Check.due("count(3)", c.x.count(3), 9);
        Check.due("count(2)", c.x.count(2), 3);
        c.taken("", 0);
        Check.due("rule(0)", c.x.rule(0), 0);
    }
}
