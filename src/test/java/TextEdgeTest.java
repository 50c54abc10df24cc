/** The edges of what the document says of THE TAPE and of the text: promises 1 to 5, and their Terms. */
public final class TextEdgeTest {
    private static final String EIGHT = "block;stop;".repeat(8);
    private static final String STEPS = "say 1;".repeat(24);

    public static void main(String[] args) {
        newObject();
        feedBytes();
        feedFull();
        tapePlaces();
        end();
        textEmptiesTape();
        textAnswers();
        fault();
        tokensLong();
        blanksBetween();
        grammar();
        setWithoutOp();
        blockNumbers();
        firstMet();
        noToken();
        misplaced();
        outOfBounds();
        tooMany();
        noSuchBlock();
        takenTellsAll();
        startsStay();
        Check.finish();
    }

    private static void newObject() {
        Check.sentence("No BLOCKS; SHEETS have nothing.");
        PointMaker x = new PointMaker();
        Check.due("rule(0)", x.rule(0), 0);
        Check.due("rule(1)", x.rule(1), 0);
        Check.due("rule(5)", x.rule(5), 0);
        Check.due("block(0, 0)", x.block(0, 0), -1);
        Check.due("step(0, 0)", x.step(0, 0), -1);
        Check.due("count(2)", x.count(2), -4);
        for (int k = 0; k < 4; k++) {
            Check.due("lay(" + k + ", 0, 0)", x.lay(k, 0, 0), -11);
            Check.due("read(" + k + ", 0, 0, 1)", x.read(k, 0, 0, 1), 0);
            Check.due("torn()", x.torn(), 1);
        }
        // On the other side: a text, a SHEET of no CELLS.
        x = Check.takes("block;stop;", 1);
        x.sheet(0, 0, 0);
        Check.due("count(2)", x.count(2), 0);
        Check.due("lay(0, 0, 0)", x.lay(0, 0, 0), -12);
    }

    private static void feedBytes() {
        Check.sentence("A byte (0 to 127) comes behind THE TAPE: how many it has. BAD;");
        PointMaker x = new PointMaker();
        int[] bad = {-1, 128, 255, 256, -128, Integer.MIN_VALUE, Integer.MAX_VALUE};
        for (int c : bad) {
            Check.due("feed(" + c + ")", x.feed(c), -1);
            Check.due("count(1)", x.count(1), 0);
        }
        for (int c = 0; c <= 127; c++) {
            Check.due("feed(" + c + ")", x.feed(c), c + 1);
        }
        // Each lies behind the one ahead: the place of the FAULT tells which one is first.
        Check.refuses("" + (char) 0, 0, 1);
        Check.refuses("" + (char) 127, 0, 1);
        Check.refuses(" " + (char) 0, 1, 1);
    }

    private static void feedFull() {
        Check.sentence("FULL: more than 320.");
        PointMaker x = new PointMaker();
        for (int i = 1; i <= 319; i++) {
            x.feed(' ');
        }
        Check.due("the 320th", x.feed(';'), 320);
        Check.due("the 321st", x.feed(';'), -3);
        Check.due("the 321st, BAD", x.feed(128), -1);
        Check.due("the 321st, BAD", x.feed(-1), -1);
        Check.due("count(1)", x.count(1), 320);
        Check.due("the ; is at 319", x.text(), -10 - 319);
        Check.due("the 1st", x.feed(' '), 1);
    }

    private static void tapePlaces() {
        Check.sentence("THE TAPE has 320 bytes, places from 0.");
        Check.refuses(";", 0, 2);
        Check.refuses(" ;", 1, 2);
        // A text of 320 bytes, the last one told with the others.
        Check.takes("block;stop;" + " ".repeat(309), 1);
        Check.takes(" ".repeat(309) + "block;stop;", 1);
        Check.refuses(" ".repeat(310) + "block;stop", 320, 2);
        Check.refuses(" ".repeat(319) + "b", 319, 2);
        // What did not come is not read: the 321st byte would make it whole.
        Check.refuses(" ".repeat(310) + "block;stop;", 320, 2);
    }

    private static void end() {
        Check.sentence("THE TAPE keeps its first n bytes: how many it had. BAD.");
        Check c = new Check();
        Check.due("end(0) of none", c.x.end(0), 0);
        Check.due("end(1) of none", c.x.end(1), -1);
        Check.due("end(-1) of none", c.x.end(-1), -1);
        c.feed("block;stop;xyz");
        Check.due("end(15)", c.x.end(15), -1);
        Check.due("end(-1)", c.x.end(-1), -1);
        Check.due("end(least)", c.x.end(Integer.MIN_VALUE), -1);
        Check.due("end(most)", c.x.end(Integer.MAX_VALUE), -1);
        Check.due("all are there", c.x.count(1), 14);
        Check.due("end(14)", c.x.end(14), 14);
        Check.due("count(1)", c.x.count(1), 14);
        Check.due("end(13)", c.x.end(13), 14);
        Check.due("end(11)", c.x.end(11), 13);
        Check.due("end(12)", c.x.end(12), -1);
        // What comes next comes behind those that were kept.
        Check.due("feed", c.x.feed(' '), 12);
        Check.due("text()", c.x.text(), 1);
        c.feed("block;stop;");
        Check.due("end(0)", c.x.end(0), 11);
        Check.due("count(1)", c.x.count(1), 0);
        Check.due("end(0)", c.x.end(0), 0);
        Check.due("text()", c.x.text(), 0);
    }

    private static void textEmptiesTape() {
        Check.sentence("THE TAPE (empty then) tells all: how many BLOCKS;");
        Check c = new Check();
        Check.due("no bytes", c.x.text(), 0);
        c.feed("block;stop;");
        Check.due("one BLOCK", c.x.text(), 1);
        Check.due("empty behind it", c.x.count(1), 0);
        c.feed("z");
        Check.due("refused", c.x.text(), -10);
        Check.due("empty behind it too", c.x.count(1), 0);
        Check.due("one BLOCK stays", c.x.rule(0), 1);
        Check.due("no bytes tell no BLOCKS", c.x.text(), 0);
        Check.due("none", c.x.rule(0), 0);
        Check.takes(EIGHT, 8);
        Check.takes("    ", 0);
    }

    private static void textAnswers() {
        Check.sentence("-10 less the place of its FAULT: that which was told stays.");
        Check c = Check.of("block;say 1;stop;block;stop;");
        c.refused("$", 0, 1);
        c.refused(" $", 1, 1);
        c.refused("block;stop;block;say 1;stop;block;goto 3;", 41, 6);
        c.refused("block;stop;block", 16, 2);
        Check.due("rule(0)", c.x.rule(0), 2);
        Check.due("rule(1)", c.x.rule(1), 1);
        Check.due("block(0, 0)", c.x.block(0, 0), 0);
        Check.due("block(0, 2)", c.x.block(0, 2), 2);
        Check.due("step(0, 2)", c.x.step(0, 2), 1);
        c.taken("block;stop;", 1);
        Check.due("rule(1)", c.x.rule(1), 0);
    }

    private static void fault() {
        Check.sentence("The FAULT of the latest text(); 0.");
        Check c = new Check();
        Check.due("no text yet", c.x.fault(), 0);
        c.x.feed('$');
        Check.due("still none", c.x.fault(), 0);
        c.x.text();
        Check.due("1", c.x.fault(), 1);
        c.x.feed(';');
        Check.due("still 1", c.x.fault(), 1);
        c.x.text();
        Check.due("2", c.x.fault(), 2);
        c.text("block;goto 8;");
        Check.due("3", c.x.fault(), 3);
        c.text(EIGHT + "block");
        Check.due("5", c.x.fault(), 5);
        c.text("block;goto 1;");
        Check.due("6", c.x.fault(), 6);
        c.x.keep(0);
        c.x.back(0);
        c.x.run();
        Check.due("still 6", c.x.fault(), 6);
        c.x.text();
        Check.due("0", c.x.fault(), 0);
    }

    private static void tokensLong() {
        Check.sentence("TOKENS, each as long as may be,");
        Check.refuses("blockstop;", 0, 2);
        Check.refuses("block;saya;stop;", 6, 2);
        Check.refuses("block;set ab;stop;", 10, 2);
        Check.refuses("block;set a bplus 1;stop;", 12, 2);
        Check.refuses("block;set a b plus1c;stop;", 19, 2);
        Check.refuses("block;stopblock;stop;", 6, 2);
        PointMaker x = Check.takes("block;say 12;stop;", 1);
        Check.due("12", x.step(0, 2), 12);
        Check.refuses("block;say 1 2;stop;", 12, 2);
        // A NAME ends where figures begin, and the other way about; a ; is by itself.
        x = Check.takes("block;set a0plus99;say9;if f0 0;", 1);
        Check.due("0", x.step(0, 2), 0);
        Check.due("plus", x.step(0, 3), 0);
        Check.due("99", x.step(0, 4), 99);
        Check.refuses("block;;stop;", 6, 2);
        Check.refuses("block;if a00;", 12, 2);
        Check.takes("block;if a00 0;", 1);
    }

    private static void blanksBetween() {
        Check.sentence("blanks (32) between: NAMES (a .. z), NUMBERS (1 or 2 figures), one ; .");
        Check.takes("block;stop;", 1);
        Check.takes(" block ; stop ; ", 1);
        Check.takes("     block     ;     stop     ;     ", 1);
        for (char c : new char[] {31, 33, 9, 10, 13, 0, 127}) {
            Check.refuses("block;" + c + "stop;", 6, 1);
        }
        // a and z begin NAMES, their neighbours nothing.
        Check.refuses("a", 0, 2);
        Check.refuses("z", 0, 2);
        Check.refuses("`", 0, 1);
        Check.refuses("{", 0, 1);
        Check.refuses("A", 0, 1);
        Check.refuses("Z", 0, 1);
        // 0 and 9 are figures, their neighbours are not.
        Check.refuses("0", 0, 2);
        Check.refuses("9", 0, 2);
        Check.refuses("/", 0, 1);
        Check.refuses(":", 0, 1);
        Check.refuses("<", 0, 1);
        Check.refuses(";", 0, 2);
        Check.refuses("block;say 1:", 11, 1);
        Check.refuses("block;say 1/", 11, 1);
        Check.refuses("block;say a`", 11, 1);
        Check.refuses("block;say a{", 11, 1);
        PointMaker x = Check.takes("block;say 0;say 00;say 09;say 99;stop;", 1);
        int[] due = {0, 0, 9, 99};
        for (int i = 0; i < 4; i++) {
            Check.due("step(" + i + ", 2)", x.step(i, 2), due[i]);
        }
        Check.refuses("block;say 000;stop;", 10, 1);
    }

    private static void grammar() {
        Check.sentence("text: { block }   block: block ; { step } end   step: set V O [ OP O ] ; | say O ;   "
            + "end: goto N ; | if V N N ; | stop ;   O: V | N   V: a .. f   OP: plus | less | same | more");
        Check.takes("", 0);
        Check.takes("block;stop;", 1);
        Check.takes("block;goto 0;", 1);
        Check.takes("block;if a 0 0;", 1);
        PointMaker x = Check.takes("block;set a b plus c;set f 1 less 2;set a a same 3;set b 4 more f;say e;say 5;stop;"
            + "block;goto 0;block;if f 1 2;", 3);
        int[][] due = {{0, 0, 101, 0, 102}, {0, 5, 1, 1, 2}, {0, 0, 100, 2, 3}, {0, 1, 4, 3, 105},
            {1, -4, 104, -4, -4}, {1, -4, 5, -4, -4}};
        for (int i = 0; i < due.length; i++) {
            for (int w = 0; w < 5; w++) {
                Check.due("step(" + i + ", " + w + ")", x.step(i, w), due[i][w]);
            }
        }
        // V: a and f, but neither their neighbours nor two letters.
        Check.takes("block;set a f;set f a;if f 0 0;", 1);
        Check.refuses("block;set g a;", 10, 2);
        Check.refuses("block;set a g;", 12, 2);
        Check.refuses("block;say g;", 10, 2);
        Check.refuses("block;if g 0 0;", 9, 2);
        Check.refuses("block;say aa;", 10, 2);
        // Each sign that has to be there.
        String all = "block;set a b plus c;say 5;goto 0;";
        Check.takes(all, 1);
        int[] at = {5, 20, 26, 33};
        for (int i : at) {
            String without = all.substring(0, i) + " " + all.substring(i + 1);
            Check.refuses(without + "x", i + 1, 2);
        }
        Check.refuses("block;if a 0;", 12, 2);
        Check.refuses("block;if a;", 10, 2);
        Check.refuses("block;if;", 8, 2);
        Check.refuses("block;goto;", 10, 2);
        Check.refuses("block;say;", 9, 2);
        Check.refuses("block;set;", 9, 2);
        Check.refuses("block;set a;", 11, 2);
        Check.refuses("block;set a b plus;", 18, 2);
        Check.refuses("block;say 1;block;stop;", 12, 2);
    }

    private static void setWithoutOp() {
        Check.sentence("set without OP: plus 0.");
        PointMaker x = Check.takes("block;set c 7;set d e;set c 7 plus 0;set d e less 0;stop;", 1);
        int[][] due = {{0, 2, 7, 0, 0}, {0, 3, 104, 0, 0}, {0, 2, 7, 0, 0}, {0, 3, 104, 1, 0}};
        for (int i = 0; i < 4; i++) {
            for (int w = 0; w < 5; w++) {
                Check.due("step(" + i + ", " + w + ")", x.step(i, w), due[i][w]);
            }
        }
        Check.refuses("block;set c 7 0;stop;", 14, 2);
    }

    private static void blockNumbers() {
        Check.sentence("N of goto, if: a BLOCK (0 to 7); else 0 to 99.");
        String rest = "block;stop;".repeat(7);
        for (int n = 0; n < 12; n++) {
            if (n < 8) {
                Check.due("goto", Check.takes("block;goto " + n + ";" + rest, 8).block(0, 3), n);
                Check.due("if", Check.takes("block;if a " + n + " 0;" + rest, 8).block(0, 3), n);
                Check.due("else", Check.takes("block;if a 0 0" + n + ";" + rest, 8).block(0, 4), n);
            } else {
                Check.refuses("block;goto " + n + ";" + rest, 11, 3);
                Check.refuses("block;if a " + n + " 0;" + rest, 11, 3);
                Check.refuses("block;if a 0 " + n + ";" + rest, 13, 3);
            }
        }
        PointMaker x = Check.takes("block;say 0;say 99;set a 0 less 99;set a 99 less 0;stop;", 1);
        Check.due("say 0", x.step(0, 2), 0);
        Check.due("say 99", x.step(1, 2), 99);
        Check.due("99", x.step(2, 4), 99);
        Check.due("99", x.step(3, 2), 99);
        Check.refuses("block;say 100;stop;", 10, 1);
    }

    private static void firstMet() {
        Check.sentence("FAULTS, the first met as it is read (a TOKEN is read when the one before has been taken):");
        // A TOKEN that is refused: what comes behind it is not looked at.
        Check.refuses("z$", 0, 2);
        Check.refuses("block;goto 8$", 11, 3);
        Check.refuses("block;if a 9$", 11, 3);
        Check.refuses("block;if a 0 8$", 13, 3);
        Check.refuses("block;set g$", 10, 2);
        Check.refuses("block;say plus$", 10, 2);
        Check.refuses(EIGHT + "block$", 88, 5);
        Check.refuses("block;" + STEPS + "say$", 150, 5);
        Check.refuses("block;" + STEPS + "set$", 150, 5);
        // A TOKEN that is taken: the one behind it is read at once.
        Check.refuses("block$", 5, 1);
        Check.refuses("block;$", 6, 1);
        Check.refuses("block;set$", 9, 1);
        Check.refuses("block;set a$", 11, 1);
        Check.refuses("block;set a 1$", 13, 1);
        Check.refuses("block;set a 1 less$", 18, 1);
        Check.refuses("block;set a 1 less 2$", 20, 1);
        Check.refuses("block;set a 1;$", 14, 1);
        Check.refuses("block;say$", 9, 1);
        Check.refuses("block;say 7$", 11, 1);
        Check.refuses("block;goto$", 10, 1);
        Check.refuses("block;goto 7$", 12, 1);
        Check.refuses("block;if$", 8, 1);
        Check.refuses("block;if a$", 10, 1);
        Check.refuses("block;if a 7$", 12, 1);
        Check.refuses("block;if a 7 7$", 14, 1);
        Check.refuses("block;stop$", 10, 1);
        Check.refuses("block;stop;$", 11, 1);
        // A BLOCK that there is not is the last FAULT of all.
        Check.refuses("block;goto 7;$", 13, 1);
        Check.refuses("block;goto 7;z", 13, 2);
        Check.refuses("block;goto 7;block;goto 8;", 24, 3);
        Check.refuses("block;goto 7;", 13, 6);
    }

    private static void noToken() {
        Check.sentence("1 no TOKEN, a NUMBER that is too long (its first byte).");
        Check.refuses("$", 0, 1);
        Check.refuses("block;say 1,stop;", 11, 1);
        Check.refuses("block;say 123;", 10, 1);
        Check.refuses("block;say 012345678901234567890;", 10, 1);
        Check.refuses("block;goto 000;", 11, 1);
        Check.refuses("block;if a 0 007;", 13, 1);
        // It is too long ahead of its not being able to stand there.
        Check.refuses("123", 0, 1);
        Check.refuses("12", 0, 2);
        Check.refuses("block;set 100;", 10, 1);
        Check.refuses("block;set 10;", 10, 2);
        Check.refuses("block;set a 1 100;", 14, 1);
        Check.refuses("block;set a 1 10;", 14, 2);
        Check.takes("block;say 12;goto 00;", 1);
    }

    private static void misplaced() {
        Check.sentence("2 a TOKEN that can not stand there (a NAME that begins nothing there, is no V, no OP; "
            + "or the end: the length).");
        Check.refuses("stop;", 0, 2);
        Check.refuses("block;block;", 6, 2);
        Check.refuses("block;plus;", 6, 2);
        Check.refuses("block;a;", 6, 2);
        Check.refuses("block;sa 1;", 6, 2);
        Check.refuses("block;sayy 1;", 6, 2);
        Check.refuses("block;stop;stop;", 11, 2);
        Check.refuses("block;stop;set a 1;", 11, 2);
        Check.refuses("block;goto block;", 11, 2);
        Check.refuses("block;set say 1;", 10, 2);
        Check.refuses("block;set a a f;", 14, 2);
        Check.refuses("block;set a a plu 1;", 14, 2);
        Check.refuses("block;set a a pluss 1;", 14, 2);
        Check.refuses("block;set a a block 1;", 14, 2);
        Check.refuses("block;set 1 a;", 10, 2);
        Check.refuses("block;if 1 0 0;", 9, 2);
        Check.refuses("block;goto a;", 11, 2);
        // Each NAME with one letter changed, one less, one more.
        String all = "block;set a b plus c;set a b less c;set a b same c;set a b more c;say a;if a 1 2;block;goto 2;"
            + "block;stop;";
        Check.takes(all, 3);
        String[] names = {"block", "set", "plus", "less", "same", "more", "say", "if", "goto", "stop"};
        for (String name : names) {
            int at = all.indexOf(name);
            String behind = all.substring(at + name.length());
            for (int i = 0; i < name.length(); i++) {
                String other = name.substring(0, i) + "z" + name.substring(i + 1);
                Check.refuses(all.substring(0, at) + other + behind, at, 2);
            }
            Check.refuses(all.substring(0, at) + name.substring(1) + behind, at, 2);
            Check.refuses(all.substring(0, at) + name.substring(0, name.length() - 1) + behind, at, 2);
            Check.refuses(all.substring(0, at) + name + "z" + behind, at, 2);
        }
        // The end, in each place where it can not stand; blanks ahead of it belong to the length.
        String[] cut = {"block", "block;", "block;set", "block;set a", "block;set a 1", "block;set a 1 plus",
            "block;set a 1 plus 2", "block;set a 1 plus 2;", "block;say", "block;say a", "block;say a;", "block;goto",
            "block;goto 0", "block;if", "block;if a", "block;if a 0", "block;if a 0 0", "block;stop"};
        for (String s : cut) {
            Check.refuses(s, s.length(), 2);
            Check.refuses(s + "   ", s.length() + 3, 2);
        }
        Check.takes("block;stop;   ", 1);
    }

    private static void outOfBounds() {
        Check.sentence("3 a NUMBER out of its bounds.");
        Check.refuses("block;goto 8;", 11, 3);
        Check.refuses("block;goto 08;", 11, 3);
        Check.refuses("block;goto 99;", 11, 3);
        Check.refuses("block;goto 7;", 13, 6);
        Check.refuses("block;if a 8 8;", 11, 3);
        Check.refuses("block;if a 7 8;", 13, 3);
        Check.refuses("block;if a 7 7;", 15, 6);
        Check.takes("block;say 8;set a 8 plus 8;goto 0;", 1);
    }

    private static void tooMany() {
        Check.sentence("5 the 9th block, the 25th step (its NAME).");
        Check.takes(EIGHT, 8);
        Check.refuses(EIGHT + "block;stop;", 88, 5);
        Check.refuses(EIGHT + " block", 89, 5);
        Check.refuses(EIGHT + "bloc", 88, 2);
        Check.refuses(EIGHT + ";", 88, 2);
        Check.due("24", Check.takes("block;" + STEPS + "stop;", 1).rule(1), 24);
        Check.refuses("block;" + STEPS + "say 1;stop;", 150, 5);
        Check.refuses("block;" + STEPS + " set a 1;stop;", 151, 5);
        Check.refuses("block;" + STEPS + "sat 1;stop;", 150, 2);
        // In all: 12 and 12, but not 12 and 13.
        String half = "block;" + "say 1;".repeat(12);
        Check.due("24", Check.takes(half + "stop;" + half + "stop;", 2).rule(1), 24);
        Check.refuses(half + "stop;" + half + "say 1;stop;", 78 + 5 + 78, 5);
        // The 25th step is refused ahead of the 9th block, if it is met ahead of it.
        Check.refuses("block;stop;".repeat(7) + "block;" + STEPS + "say 1;stop;block;", 77 + 150, 5);
        Check.refuses("block;stop;".repeat(7) + "block;" + STEPS + "stop;block;", 77 + 155, 5);
    }

    private static void noSuchBlock() {
        Check.sentence("Behind all (the length): 6 a BLOCK is told that there is not.");
        Check.takes("block;goto 0;", 1);
        Check.refuses("block;goto 1;", 13, 6);
        Check.refuses("block;goto 1;    ", 17, 6);
        Check.takes("block;goto 1;block;stop;", 2);
        Check.refuses("block;if a 1 0;", 15, 6);
        Check.refuses("block;if a 0 1;", 15, 6);
        Check.takes("block;if a 0 1;block;goto 1;", 2);
        Check.refuses("block;if a 0 1;block;goto 2;", 28, 6);
        Check.refuses("block;stop;block;stop;block;goto 7;block;stop;block;stop;block;stop;block;stop;", 79, 6);
        Check.takes("block;stop;block;stop;block;goto 7;" + "block;stop;".repeat(5), 8);
    }

    private static void takenTellsAll() {
        Check.sentence("A text that is taken tells all, in place of what there was; none is GIVEN, WISE is 1, "
            + "there was no RUN; IMAGES are gone.");
        for (String next : new String[] {"block;stop;", ""}) {
            Check c = lived();
            int blocks = next.isEmpty() ? 0 : 1;
            c.taken(next, blocks);
            Check.due("rule(0)", c.x.rule(0), blocks);
            Check.due("rule(1)", c.x.rule(1), 0);
            Check.due("rule(2)", c.x.rule(2), 63);
            Check.due("rule(3)", c.x.rule(3), 0);
            Check.due("rule(4)", c.x.rule(4), 1);
            Check.due("rule(5)", c.x.rule(5), blocks);
            Check.due("give(1, -1)", c.x.give(1, -1), -4);
            Check.due("told(0)", c.x.told(0), 0);
            for (int w = 1; w < 4; w++) {
                Check.due("told(" + w + ")", c.x.told(w), -4);
            }
            Check.due("told(10)", c.x.told(10), -4);
            Check.due("count(0)", c.x.count(0), 0);
            Check.due("back(0)", c.x.back(0), -2);
            Check.due("back(1)", c.x.back(1), -2);
            Check.due("keep(0)", c.x.keep(0), 0);
            Check.due("count(2)", c.x.count(2), 3);
        }
        // What was asked of the one ahead is asked anew.
        Check other = lived();
        Check.due("rule(5)", other.x.rule(5), 2);
        Check.due("p0", other.shown(0), "p0: say 5; goto p1;");
        Check.due("block(0, 6)", other.x.block(0, 6), 2);
        other.taken("block;say c;stop;", 1);
        Check.due("rule(2)", other.x.rule(2), 63);
        Check.due("rule(5)", other.x.rule(5), 1);
        Check.due("p0", other.shown(0), "p0: say c; stop;");
        Check.due("block(0, 6)", other.x.block(0, 6), 4);
        other.taken("", 0);
        Check.due("rule(5)", other.x.rule(5), 0);
        Check.due("point(0, 0)", other.x.point(0, 0), -1);
        // A text that is not taken leaves each of these.
        Check c = lived();
        c.refused("block;stop", 10, 2);
        Check.due("rule(0)", c.x.rule(0), 2);
        Check.due("rule(3)", c.x.rule(3), 2);
        Check.due("rule(4)", c.x.rule(4), 0);
        Check.due("told(0)", c.x.told(0), 6);
        Check.due("told(3)", c.x.told(3), 1);
        Check.due("count(0)", c.x.count(0), 2);
        Check.due("back(1)", c.x.back(1), 2);
    }

    private static void startsStay() {
        Check.sentence("(VALUES with which VARIABLES begin stay.)");
        Check c = lived();
        c.taken("block;say c;stop;", 1);
        Check.due("count(3)", c.x.count(3), 9);
        c.x.run();
        Check.due("told(0)", c.x.told(0), 10);
        c.taken("", 0);
        Check.due("begin(2, 0)", c.x.begin(2, 0), 9);
        Check.due("begin(1, 0)", c.x.begin(1, 0), 0);
    }

    private static Check lived() {
        Check c = Check.of("block;say b;goto 1;block;stop;");
        c.x.give(1, 5);
        c.x.wise(0);
        c.x.begin(2, 9);
        c.x.keep(0);
        c.x.keep(1);
        c.x.sheet(0, 2, 3);
        c.x.run();
        return c;
    }
}
