import java.util.Arrays;

/** The edges of what the document says of SHEETS, of what is read of them, and of count: promises 25 to 29. */
public final class SheetEdgeTest {
    private static final int LEAST = Integer.MIN_VALUE, MOST = Integer.MAX_VALUE;

    public static void main(String[] args) {
        rows();
        faults();
        sheet();
        sheetBad();
        layBits();
        layBad();
        read();
        readRefusedByMachine();
        readBad();
        readRefusedByBegin();
        readFirstMet();
        torn();
        countImages();
        count();
        Check.finish();
    }

    /** A SHEET 1 of a lane with these CELLS. */
    private static PointMaker laid(int lane, int... cells) {
        PointMaker x = new PointMaker();
        Check.due("sheet(1, ..)", x.sheet(1, lane, cells.length), 1);
        for (int i = 0; i < cells.length; i++) {
            Check.due("lay(1, " + i + ", ..)", x.lay(1, i, cells[i]), 1);
        }
        return x;
    }

    private static void rows() {
        Check.sentence("SHEETS 0 to 3 are rows of BYTES (lane 0), SHORTS (1), INTS (2) with 0 to 40 CELLS, or nothing "
            + "(at first).");
        for (int k = 0; k < 4; k++) {
            for (int lane = 0; lane < 3; lane++) {
                PointMaker x = new PointMaker();
                Check.due("nothing", x.lay(k, 0, 1), -11);
                for (int n : new int[] {0, 1, 39, 40}) {
                    Check.due("sheet(" + k + ", " + lane + ", " + n + ")", x.sheet(k, lane, n), 1);
                    Check.due("its last CELL", x.lay(k, n - 1, 1), n == 0 ? -12 : 1);
                    Check.due("behind its last", x.lay(k, n, 1), -12);
                    // Each lane is taken as itself alone.
                    for (int as = 0; as < 3; as++) {
                        x.read(k, as, 40, 1);
                        Check.due("torn()", x.torn(), as == lane ? 2 : 3);
                    }
                }
                Check.due("41", x.sheet(k, lane, 41), -1);
                Check.due("the others have nothing", x.lay((k + 1) % 4, 0, 1), -11);
            }
        }
        PointMaker x = new PointMaker();
        for (int k : new int[] {-1, 4}) {
            Check.due("sheet(" + k + ", 0, 1)", x.sheet(k, 0, 1), -1);
            Check.due("lay(" + k + ", 0, 1)", x.lay(k, 0, 1), -1);
            Check.due("read(" + k + ", 0, 0, 1)", x.read(k, 0, 0, 1), -1);
        }
        for (int lane : new int[] {-1, 3}) {
            Check.due("sheet(0, " + lane + ", 1)", x.sheet(0, lane, 1), -1);
            Check.due("read(0, " + lane + ", 0, 1)", x.read(0, lane, 0, 1), -1);
        }
    }

    private static void faults() {
        Check.sentence("A FAULT is what the machine finds: 1 NULL (nothing), 2 INDEX, 3 CAST (another lane), 4 SIZE "
            + "(below 0).");
        PointMaker x = laid(1, 0, 3);
        Check.due("read of nothing", x.read(0, 1, 0, 1), 0);
        Check.due("NULL", x.torn(), 1);
        Check.due("read behind the last", x.read(1, 1, 2, 1), 0);
        Check.due("INDEX", x.torn(), 2);
        Check.due("read of another lane", x.read(1, 0, 0, 1), 0);
        Check.due("CAST", x.torn(), 3);
        Check.due("SIZE", x.sheet(0, 0, -1), -14);
        Check.due("read", x.read(1, 1, 0, 1), 1);
        Check.due("none", x.torn(), 0);
        // Nothing can be taken as of any lane; the lane is looked at ahead of the CELLS.
        for (int lane = 0; lane < 3; lane++) {
            for (int f : new int[] {0, -1, 40}) {
                x.read(3, lane, f, 1);
                Check.due("NULL, lane " + lane + " from " + f, x.torn(), 1);
                x.read(1, lane, f, 2);
                Check.due("lane " + lane + " from " + f, x.torn(), lane == 1 ? 2 : 3);
            }
        }
        Check.due("lay on nothing", x.lay(0, 0, 0), -11);
        Check.due("lay on nothing, no CELL", x.lay(0, -1, 0), -11);
        Check.due("lay behind the last", x.lay(1, 2, 0), -12);
    }

    private static void sheet() {
        Check.sentence("A SHEET is a new row of CELLS 0: 1.");
        PointMaker x = laid(2, 0, 9, 1, 9);
        Check.due("read", x.read(1, 2, 0, 2), 2);
        Check.due("count(3)", x.count(3), 18);
        Check.due("sheet(1, 2, 4)", x.sheet(1, 2, 4), 1);
        x.begin(1, 5);
        Check.due("read of 0, 0", x.read(1, 2, 0, 2), 2);
        Check.due("a begins with 0", x.begin(0, 0), 0);
        Check.due("b does not", x.begin(1, 0), 5);
        // Each of the 40 CELLS, also the first and the last.
        int[] cells = new int[40];
        Arrays.fill(cells, 5);
        for (int lane = 0; lane < 3; lane++) {
            PointMaker y = laid(lane, cells);
            Check.due("read of 5, 5", y.read(1, lane, 0, 20), 20);
            Check.due("begin(5, 0)", y.begin(5, 0), 5);
            Check.due("sheet(1, lane, 40)", y.sheet(1, lane, 40), 1);
            y.begin(0, 7);
            for (int f = 0; f < 39; f++) {
                Check.due("read from " + f, y.read(1, lane, f, 1), 1);
                Check.due("begin(0, 7)", y.begin(0, 7), 0);
            }
            Check.due("count(3)", y.count(3), 7);
        }
        // Shorter, then longer again: CELLS 0.
        x.lay(1, 3, 77);
        x.sheet(1, 2, 2);
        Check.due("CELL 2", x.lay(1, 2, 1), -12);
        x.sheet(1, 2, 4);
        Check.due("read of 0, 0", x.read(1, 2, 2, 1), 1);
        Check.due("count(3)", x.count(3), 0);
    }

    private static void sheetBad() {
        Check.sentence("BAD: also n above 40; -10 - 4.");
        PointMaker x = new PointMaker();
        Check.due("sheet(0, 0, 5)", x.sheet(0, 0, 5), 1);
        for (int n : new int[] {41, 42, MOST}) {
            Check.due("sheet(0, 1, " + n + ")", x.sheet(0, 1, n), -1);
        }
        for (int n : new int[] {-1, -2, LEAST}) {
            Check.due("sheet(0, 1, " + n + ")", x.sheet(0, 1, n), -14);
            // BAD is the first that fits.
            for (int far : new int[] {-1, LEAST, MOST}) {
                Check.due("sheet(" + far + ", 1, " + n + ")", x.sheet(far, 1, n), -1);
                Check.due("sheet(0, " + far + ", " + n + ")", x.sheet(0, far, n), -1);
            }
            Check.due("sheet(4, 1, " + n + ")", x.sheet(4, 1, n), -1);
            Check.due("sheet(0, 3, " + n + ")", x.sheet(0, 3, n), -1);
        }
        Check.due("it is as it was", x.count(2), 5);
        Check.due("and of its lane", x.read(0, 0, 0, 1), 1);
        Check.due("40", x.sheet(0, 1, 40), 1);
        Check.due("0", x.sheet(0, 1, 0), 1);
        Check.due("count(2)", x.count(2), 0);
    }

    private static void layBits() {
        Check.sentence("CELL i of a SHEET becomes v (its lowest bits): 1.");
        // lane, what is laid, what is read: below 0 and above 99 are refused by begin().
        int[][] rows = {{0, 99, 99}, {0, 100, -1}, {0, 256, 0}, {0, 256 + 99, 99}, {0, 255, -1}, {0, 128, -1}, {0, 127, -1},
            {0, -256, 0}, {0, -157, 99}, {0, 65536 + 42, 42}, {0, LEAST, 0}, {0, MOST, -1},
            {1, 99, 99}, {1, 256, -1}, {1, 65536, 0}, {1, 65536 + 99, 99}, {1, 65535, -1}, {1, 32768, -1},
            {1, -65536 + 42, 42}, {1, LEAST, 0}, {1, MOST, -1}, {1, 65536 + 100, -1},
            {2, 99, 99}, {2, 100, -1}, {2, 256, -1}, {2, 65536, -1}, {2, LEAST, -1}, {2, MOST, -1}, {2, -1, -1}};
        for (int[] row : rows) {
            PointMaker x = laid(row[0], 3, row[1]);
            Check.due("read of lane " + row[0] + ", " + row[1], x.read(1, row[0], 0, 1), row[2] < 0 ? -20 : 1);
            Check.due("begin(3, 0)", x.begin(3, 0), Math.max(0, row[2]));
        }
        // The VARIABLE is a CELL too.
        int[][] first = {{0, 256 + 5, 5}, {0, 6, -1}, {0, 255, -1}, {1, 65536 + 5, 5}, {1, 256 + 5, -1}, {2, 65536 + 5, -1},
            {2, 5, 5}};
        for (int[] row : first) {
            PointMaker x = laid(row[0], row[1], 9);
            Check.due("read of lane " + row[0] + ", " + row[1], x.read(1, row[0], 0, 1), row[2] < 0 ? -20 : 1);
            Check.due("begin(5, 0)", x.begin(5, 0), row[2] < 0 ? 0 : 9);
        }
        // One CELL, not its neighbours; the last one laid stays.
        PointMaker x = laid(0, 0, 1, 1, 2, 2, 3);
        x.lay(1, 3, 50);
        x.lay(1, 3, 60);
        Check.due("read", x.read(1, 0, 0, 3), 3);
        Check.due("count(3)", x.count(3), 64);
    }

    private static void layBad() {
        Check.sentence("BAD: k; -10 less the FAULT: NULL, INDEX.");
        PointMaker x = laid(2, 0, 3);
        for (int k : new int[] {-1, 4, LEAST, MOST}) {
            Check.due("lay(" + k + ", 0, 0)", x.lay(k, 0, 0), -1);
            Check.due("lay(" + k + ", -1, 0)", x.lay(k, -1, 0), -1);
        }
        for (int i : new int[] {0, -1, 40, LEAST, MOST}) {
            Check.due("lay(0, " + i + ", 0)", x.lay(0, i, 0), -11);
        }
        for (int i : new int[] {-1, 2, 39, 40, LEAST, MOST}) {
            Check.due("lay(1, " + i + ", 0)", x.lay(1, i, 0), -12);
        }
        Check.due("lay(1, 0, 1)", x.lay(1, 0, 1), 1);
        Check.due("lay(1, 1, 7)", x.lay(1, 1, 7), 1);
        Check.due("read", x.read(1, 2, 0, 1), 1);
        Check.due("count(3)", x.count(3), 7);
    }

    private static void read() {
        Check.sentence("n (0 to 20) times a VARIABLE, the VALUE with which it begins are read of a SHEET taken as of a "
            + "lane, two CELLS each from CELL f on, one behind another as by begin(): how many came.");
        int[] cells = new int[40];
        for (int i = 0; i < 20; i++) {
            cells[2 * i] = i % 6;
            cells[2 * i + 1] = i + 1;
        }
        for (int lane = 0; lane < 3; lane++) {
            PointMaker x = laid(lane, cells);
            Check.due("0", x.read(1, lane, 0, 0), 0);
            Check.due("count(3)", x.count(3), 0);
            Check.due("1", x.read(1, lane, 0, 1), 1);
            Check.due("count(3)", x.count(3), 1);
            Check.due("19", x.read(1, lane, 0, 19), 19);
            Check.due("count(3), the later ones", x.count(3), 14 + 15 + 16 + 17 + 18 + 19);
            Check.due("20", x.read(1, lane, 0, 20), 20);
            Check.due("count(3)", x.count(3), 15 + 16 + 17 + 18 + 19 + 20);
            Check.due("torn()", x.torn(), 0);
            Check.due("21", x.read(1, lane, 0, 21), -1);
            Check.due("-1", x.read(1, lane, 0, -1), -1);
            // From CELL f on, odd ones too: CELL 1 is 1, CELL 2 is 1.
            x = laid(lane, 5, 1, 7, 2, 8, 3);
            Check.due("from 1", x.read(1, lane, 1, 2), 2);
            Check.due("begin(1, 0)", x.begin(1, 0), 7);
            Check.due("begin(2, 0)", x.begin(2, 0), 8);
            Check.due("begin(5, 0)", x.begin(5, 0), 0);
        }
        // What is GIVEN is another thing.
        PointMaker x = laid(0, 0, 9);
        x.give(0, 5);
        x.read(1, 0, 0, 1);
        Check.due("give(0, -1)", x.give(0, -1), 5);
        Check.due("begin(0, 0)", x.begin(0, 0), 9);
    }

    private static void readRefusedByMachine() {
        Check.sentence("What the machine refuses: those that were whole ahead came (its FAULT is asked by torn()).");
        // Of three pairs and a half.
        PointMaker x = laid(1, 0, 1, 1, 2, 2, 3, 3);
        Check.due("3", x.read(1, 1, 0, 3), 3);
        Check.due("torn()", x.torn(), 0);
        Check.due("4", x.read(1, 1, 0, 4), 3);
        Check.due("torn()", x.torn(), 2);
        Check.due("count(3)", x.count(3), 6);
        x.begin(2, 0);
        Check.due("20 from 4", x.read(1, 1, 4, 20), 1);
        Check.due("count(3)", x.count(3), 6);
        Check.due("from 5, the pair is whole", x.read(1, 1, 5, 1), 1);
        Check.due("begin(3, 0)", x.begin(3, 0), 3);
        Check.due("from 6, the half", x.read(1, 1, 6, 1), 0);
        Check.due("torn()", x.torn(), 2);
        x.read(1, 1, 0, 1);
        for (int f : new int[] {7, 8, 39, 40, MOST - 1, MOST, -1, -2, LEAST, LEAST + 1}) {
            Check.due("from " + f, x.read(1, 1, f, 1), 0);
            Check.due("torn()", x.torn(), 2);
            Check.due("20 from " + f, x.read(1, 1, f, 20), 0);
            Check.due("count(3)", x.count(3), 6);
        }
        Check.due("another lane", x.read(1, 2, 0, 3), 0);
        Check.due("torn()", x.torn(), 3);
        Check.due("nothing", x.read(0, 2, 0, 3), 0);
        Check.due("torn()", x.torn(), 1);
        Check.due("count(3)", x.count(3), 6);
        x.sheet(1, 1, 0);
        Check.due("no CELLS", x.read(1, 1, 0, 1), 0);
        Check.due("torn()", x.torn(), 2);
        x.sheet(1, 1, 1);
        Check.due("one CELL", x.read(1, 1, 0, 1), 0);
        Check.due("torn()", x.torn(), 2);
        x.sheet(1, 1, 2);
        Check.due("two CELLS", x.read(1, 1, 0, 1), 1);
        Check.due("torn()", x.torn(), 0);
    }

    private static void readBad() {
        Check.sentence("BAD: k, lane, n;");
        PointMaker x = laid(1, 0, 1);
        for (int far : new int[] {-1, LEAST, MOST}) {
            Check.due("k " + far, x.read(far, 1, 0, 1), -1);
            Check.due("lane " + far, x.read(1, far, 0, 1), -1);
            Check.due("n " + far, x.read(1, 1, 0, far), -1);
        }
        Check.due("k 4", x.read(4, 1, 0, 1), -1);
        Check.due("k 3", x.read(3, 1, 0, 1), 0);
        Check.due("lane 3", x.read(1, 3, 0, 1), -1);
        Check.due("lane 2", x.read(1, 2, 0, 1), 0);
        Check.due("n 21", x.read(1, 1, 0, 21), -1);
        Check.due("n 20", x.read(1, 1, 0, 20), 1);
        // Ahead of all that the machine finds, and also where nothing is to be read.
        Check.due("nothing, n 21", x.read(0, 1, 0, 21), -1);
        Check.due("k 4, n 0", x.read(4, 1, 0, 0), -1);
        Check.due("lane 3, n 0", x.read(1, 3, 0, 0), -1);
        // f is not among them.
        Check.due("f -1, n 0", x.read(1, 1, -1, 0), 0);
    }

    private static void readRefusedByBegin() {
        Check.sentence("-20 less i: the i-th, whole, is refused by begin(): then none came;");
        int[][] pairs = {{-1, 0}, {6, 0}, {0, -1}, {0, 100}, {6, 100}, {-1, -1}};
        for (int[] bad : pairs) {
            for (int i = 0; i < 3; i++) {
                int[] cells = {5, 1, 4, 2, 3, 3};
                cells[2 * i] = bad[0];
                cells[2 * i + 1] = bad[1];
                PointMaker x = laid(0, cells);
                x.begin(5, 50);
                x.begin(4, 40);
                x.begin(3, 30);
                Check.due("the " + i + "-th", x.read(1, 0, 0, 3), -20 - i);
                Check.due("none came", x.count(3), 120);
                Check.due("those ahead of it", x.read(1, 0, 0, i), i);
            }
        }
        // The edges that begin() takes.
        PointMaker x = laid(0, 0, 0, 5, 99);
        Check.due("read", x.read(1, 0, 0, 2), 2);
        Check.due("count(3)", x.count(3), 99);
        // The last that can be: the 20th.
        int[] cells = new int[40];
        cells[39] = 100;
        x = laid(1, cells);
        Check.due("the 20th", x.read(1, 1, 0, 20), -39);
        Check.due("but it", x.read(1, 1, 0, 19), 19);
    }

    private static void readFirstMet() {
        Check.sentence("the first met.");
        // Two that begin() refuses: the first; a half one is the machine's, though its VARIABLE is none.
        PointMaker x = laid(2, 0, 5, 6, 0, 7, 0);
        Check.due("two", x.read(1, 2, 0, 3), -21);
        Check.due("from the second", x.read(1, 2, 4, 3), -20);
        x = laid(2, 0, 5, 6);
        Check.due("half", x.read(1, 2, 0, 2), 1);
        Check.due("torn()", x.torn(), 2);
        Check.due("count(3)", x.count(3), 5);
        // begin() refuses ahead of the row's end, and behind it there is none left to be refused.
        x = laid(2, 6, 0, 0);
        Check.due("ahead of the end", x.read(1, 2, 0, 20), -20);
        // Of another lane nothing is whole.
        Check.due("another lane", x.read(1, 1, 0, 20), 0);
        Check.due("torn()", x.torn(), 3);
    }

    private static void torn() {
        Check.sentence("The FAULT of the latest read() that came to an end; 0.");
        PointMaker x = laid(1, 0, 1, 6, 0);
        Check.due("no read() yet", x.torn(), 0);
        x.lay(0, 0, 0);
        x.sheet(0, 0, -1);
        Check.due("lay(), sheet() are none", x.torn(), 0);
        x.read(0, 1, 0, 1);
        Check.due("NULL", x.torn(), 1);
        x.read(1, 1, 4, 1);
        Check.due("INDEX", x.torn(), 2);
        x.read(1, 0, 0, 1);
        Check.due("CAST", x.torn(), 3);
        // Those that are refused came to no end.
        x.read(1, 1, 0, 2);
        x.read(1, 1, 0, 21);
        x.read(4, 1, 0, 1);
        x.read(1, 3, 0, 1);
        Check.due("still CAST", x.torn(), 3);
        x.text();
        x.keep(0);
        x.back(0);
        x.sheet(1, 1, 2);
        Check.due("still CAST", x.torn(), 3);
        x.read(1, 0, 0, 0);
        Check.due("a read() of none", x.torn(), 0);
        x.read(1, 0, 0, 1);
        x.read(1, 1, 0, 1);
        Check.due("a read() without FAULT", x.torn(), 0);
    }

    private static void countImages() {
        Check.sentence("How many: 0 IMAGES, 1 bytes on THE TAPE, 2 CELLS of SHEET 0 (NONE: nothing), 3 VALUES with which "
            + "VARIABLES begin, summed,");
        PointMaker x = new PointMaker();
        for (int w = 0; w < 5; w++) {
            Check.due("count(" + w + ")", x.count(w), w == 2 ? -4 : 0);
        }
        x.keep(1);
        Check.due("count(0)", x.count(0), 1);
        x.keep(0);
        x.keep(0);
        Check.due("count(0)", x.count(0), 2);
        x.feed('a');
        x.feed(-1);
        Check.due("count(1)", x.count(1), 1);
        for (int k = 1; k < 4; k++) {
            x.sheet(k, 0, 7);
        }
        Check.due("count(2), SHEET 0 has nothing", x.count(2), -4);
        x.sheet(0, 0, 0);
        Check.due("count(2)", x.count(2), 0);
        x.sheet(0, 2, 40);
        Check.due("count(2)", x.count(2), 40);
        for (int v = 0; v < 6; v++) {
            x.begin(v, 99);
            x.give(v, 1);
        }
        Check.due("count(3)", x.count(3), 594);
        x.begin(3, 0);
        Check.due("count(3)", x.count(3), 495);
    }

    private static void count() {
        Check.sentence("4 NUMBERS that are OPERANDS of all STEPS, summed. BAD.");
        PointMaker x = Check.of("block;set f 1;set f a plus 2;set f 4 less b;say 8;stop;block;say f;say 16;stop;").x;
        Check.due("count(4)", x.count(4), 31);
        x.alter(0, 2, 100);
        Check.due("100 is a VARIABLE", x.count(4), 30);
        x.alter(0, 2, 99);
        Check.due("99 is a NUMBER", x.count(4), 129);
        x.alter(0, 4, 99);
        Check.due("the second one, too", x.count(4), 228);
        x = Check.of("block;" + "set a9;".repeat(24) + "stop;").x;
        Check.due("count(4)", x.count(4), 216);
        for (int w : new int[] {-1, 5, 6, LEAST, MOST}) {
            Check.due("count(" + w + ")", x.count(w), -1);
        }
    }
}
