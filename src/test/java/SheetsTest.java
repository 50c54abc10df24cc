/** Promises 25 to 29: sheet, lay, read, torn, count. */
public final class SheetsTest {
    public static void main(String[] args) {
        sheet();
        lay();
        read();
        refusedPairs();
        torn();
        readNone();
        count();
        Check.finish();
    }

    private static void sheet() {
        PointMaker x = new PointMaker();
        Check.due("sheet(4, 0, 1)", x.sheet(4, 0, 1), -1);
        Check.due("sheet(-1, 0, 1)", x.sheet(-1, 0, 1), -1);
        Check.due("sheet(0, 3, 1)", x.sheet(0, 3, 1), -1);
        Check.due("sheet(0, -1, 1)", x.sheet(0, -1, 1), -1);
        Check.due("sheet(0, 0, 41)", x.sheet(0, 0, 41), -1);
        Check.due("sheet(0, 0, -1)", x.sheet(0, 0, -1), -14);
        Check.due("sheet(0, 3, -1)", x.sheet(0, 3, -1), -1);
        Check.due("sheet(4, 0, -1)", x.sheet(4, 0, -1), -1);
        Check.due("still nothing", x.count(2), -4);
        Check.due("sheet(0, 2, 40)", x.sheet(0, 2, 40), 1);
        Check.due("count(2)", x.count(2), 40);
        Check.due("sheet(0, 0, -1)", x.sheet(0, 0, Integer.MIN_VALUE), -14);
        Check.due("it stays", x.count(2), 40);
        Check.due("sheet(0, 0, 0)", x.sheet(0, 0, 0), 1);
        Check.due("count(2)", x.count(2), 0);
        // A new row has CELLS 0.
        x.sheet(3, 2, 4);
        x.lay(3, 1, 50);
        Check.due("sheet(3, 2, 4)", x.sheet(3, 2, 4), 1);
        x.begin(0, 5);
        Check.due("read(3, 2, 0, 1)", x.read(3, 2, 0, 1), 1);
        Check.due("begin(0, 0)", x.begin(0, 0), 0);
    }

    private static void lay() {
        PointMaker x = new PointMaker();
        Check.due("lay(4, 0, 0)", x.lay(4, 0, 0), -1);
        Check.due("lay(-1, 0, 0)", x.lay(-1, 0, 0), -1);
        Check.due("lay(0, 0, 0)", x.lay(0, 0, 0), -11);
        Check.due("lay(0, -1, 0)", x.lay(0, -1, 0), -11);
        x.sheet(0, 0, 2);
        Check.due("lay(0, 2, 0)", x.lay(0, 2, 0), -12);
        Check.due("lay(0, -1, 0)", x.lay(0, -1, 0), -12);
        Check.due("lay(0, 1, 0)", x.lay(0, 1, 0), 1);
        // The lowest bits of each lane.
        int[] wraps = {256, 65536};
        for (int lane = 0; lane < 2; lane++) {
            x.sheet(0, lane, 2);
            Check.due("lay", x.lay(0, 0, wraps[lane] + 3), 1);
            Check.due("lay", x.lay(0, 1, 7 * wraps[lane] + 42), 1);
            Check.due("read", x.read(0, lane, 0, 1), 1);
            Check.due("begin(3, 0)", x.begin(3, 0), 42);
            x.lay(0, 1, wraps[lane] - 1);
            Check.due("read of -1", x.read(0, lane, 0, 1), -20);
        }
        x.sheet(0, 2, 2);
        x.lay(0, 0, 65536 + 3);
        Check.due("INTS keep all", x.read(0, 2, 0, 1), -20);
    }

    private static PointMaker rows(int lane, int... cells) {
        PointMaker x = new PointMaker();
        x.sheet(1, lane, cells.length);
        for (int i = 0; i < cells.length; i++) {
            x.lay(1, i, cells[i]);
        }
        return x;
    }

    private static void read() {
        for (int lane = 0; lane < 3; lane++) {
            PointMaker x = rows(lane, 0, 3, 1, 9, 5, 99, 0, 4);
            Check.due("read(4, ..)", x.read(4, lane, 0, 1), -1);
            Check.due("read(-1, ..)", x.read(-1, lane, 0, 1), -1);
            Check.due("read(1, 3, ..)", x.read(1, 3, 0, 1), -1);
            Check.due("read(1, -1, ..)", x.read(1, -1, 0, 1), -1);
            Check.due("read 21", x.read(1, lane, 0, 21), -1);
            Check.due("read -1", x.read(1, lane, 0, -1), -1);
            Check.due("read 0", x.read(1, lane, 0, 0), 0);
            Check.due("read 2", x.read(1, lane, 0, 2), 2);
            Check.due("count(3)", x.count(3), 12);
            Check.due("read 4", x.read(1, lane, 0, 4), 4);
            Check.due("the later one", x.begin(0, 0), 4);
            Check.due("count(3)", x.count(3), 108);
            // What the machine refuses: those that were whole ahead came.
            Check.due("read 20", x.read(1, lane, 0, 20), 4);
            Check.due("torn()", x.torn(), 2);
            Check.due("count(3)", x.count(3), 112);
            x.begin(0, 0);
            Check.due("half a pair", x.read(1, lane, 7, 1), 0);
            Check.due("torn()", x.torn(), 2);
            Check.due("read from 6", x.read(1, lane, 6, 3), 1);
            Check.due("begin(0, 0)", x.begin(0, 0), 4);
            for (int f : new int[] {-1, -2, 8, 40, Integer.MAX_VALUE, Integer.MIN_VALUE}) {
                Check.due("read from " + f, x.read(1, lane, f, 2), 0);
                Check.due("torn()", x.torn(), 2);
            }
            Check.due("another lane", x.read(1, (lane + 1) % 3, 0, 2), 0);
            Check.due("torn()", x.torn(), 3);
            Check.due("nothing", x.read(2, lane, 0, 2), 0);
            Check.due("torn()", x.torn(), 1);
        }
        int[] full = new int[40];
        for (int i = 0; i < 20; i++) {
            full[2 * i + 1] = i;
        }
        PointMaker x = rows(1, full);
        Check.due("read 20", x.read(1, 1, 0, 20), 20);
        Check.due("torn()", x.torn(), 0);
        Check.due("begin(0, 0)", x.begin(0, 0), 19);
    }

    private static void refusedPairs() {
        int[][] bad = {{6, 0}, {-1, 0}, {0, 100}, {0, -1}};
        for (int[] pair : bad) {
            PointMaker x = rows(2, 0, 3, 1, 9, pair[0], pair[1]);
            x.begin(0, 50);
            Check.due("the third", x.read(1, 2, 0, 3), -22);
            Check.due("none came", x.count(3), 50);
            Check.due("the first", x.read(1, 2, 4, 3), -20);
            Check.due("ahead of the row's end", x.read(1, 2, 2, 20), -21);
            Check.due("two", x.read(1, 2, 0, 2), 2);
            Check.due("count(3)", x.count(3), 12);
        }
        // A pair that is not whole is the machine's to refuse.
        PointMaker x = rows(2, 0, 3, 77);
        Check.due("read", x.read(1, 2, 0, 2), 1);
        Check.due("torn()", x.torn(), 2);
    }

    private static void torn() {
        PointMaker x = rows(0, 0, 3, 77, 0);
        Check.due("torn()", x.torn(), 0);
        x.read(1, 1, 0, 1);
        Check.due("torn()", x.torn(), 3);
        // What is refused changes nothing.
        Check.due("read", x.read(1, 0, 0, 2), -21);
        Check.due("torn()", x.torn(), 3);
        Check.due("read", x.read(1, 0, 0, 21), -1);
        Check.due("torn()", x.torn(), 3);
        x.text();
        Check.due("torn()", x.torn(), 3);
        Check.due("read", x.read(1, 0, 0, 1), 1);
        Check.due("torn()", x.torn(), 0);
    }

    /** With n 0 nothing is read, so that the machine finds no FAULT, whatever the SHEET and the CELL are. */
    private static void readNone() {
        PointMaker x = rows(1, 0, 3);
        x.sheet(0, 2, 0);
        for (int k = 0; k < 3; k++) {
            for (int lane = 0; lane < 3; lane++) {
                for (int f : new int[] {0, 1, 2, -1, 40, Integer.MAX_VALUE, Integer.MIN_VALUE}) {
                    String call = "read(" + k + ", " + lane + ", " + f + ", 0)";
                    x.read(1, 0, 0, 1);
                    Check.due("torn() ahead of " + call, x.torn(), 3);
                    Check.due(call, x.read(k, lane, f, 0), 0);
                    Check.due("torn() behind " + call, x.torn(), 0);
                }
            }
        }
        Check.due("none came", x.count(3), 0);
        // From one pair on the SHEET is taken as of the lane, ahead of its CELLS.
        Check.due("another lane, no CELLS", x.read(0, 0, 0, 1), 0);
        Check.due("torn()", x.torn(), 3);
        Check.due("another lane, no such CELL", x.read(1, 0, -1, 1), 0);
        Check.due("torn()", x.torn(), 3);
        // What is BAD stays BAD, and leaves the FAULT.
        Check.due("read(4, 0, 0, 0)", x.read(4, 0, 0, 0), -1);
        Check.due("read(0, 3, 0, 0)", x.read(0, 3, 0, 0), -1);
        Check.due("torn()", x.torn(), 3);
    }

    private static void count() {
        PointMaker x = Check.of("block;set a 5;set b a plus 7;say 9;say c;set d 99 more e;stop;").x;
        Check.due("count(-1)", x.count(-1), -1);
        Check.due("count(5)", x.count(5), -1);
        Check.due("count(4)", x.count(4), 5 + 7 + 9 + 99);
        x.alter(0, 4, 20);
        x.alter(2, 2, 100);
        Check.due("count(4)", x.count(4), 5 + 20 + 7 + 99);
        x.feed('a');
        x.feed('b');
        Check.due("count(1)", x.count(1), 2);
        x.begin(0, 10);
        x.begin(5, 20);
        Check.due("count(3)", x.count(3), 30);
        x.keep(1);
        Check.due("count(0)", x.count(0), 1);
        x.sheet(1, 0, 5);
        Check.due("count(2)", x.count(2), -4);
        x.sheet(0, 0, 5);
        Check.due("count(2)", x.count(2), 5);
    }
}
