import java.util.ArrayList;
import java.util.List;

/** What the document says of all calls: which answer is the first that fits, and that what is refused changes nothing. */
public final class AnswersEdgeTest {
    private static final int LEAST = Integer.MIN_VALUE, MOST = Integer.MAX_VALUE;

    private interface Call {
        int on(PointMaker x);
    }

    private record Refused(String name, Call call, int due) {
    }

    public static void main(String[] args) {
        constants();
        firstThatFits();
        refusedChangesNothing();
        refusedText();
        refusedFull();
        refusedWithoutPoints();
        lastCall();
        Check.finish();
    }

    private static void constants() {
        Check.sentence("Answers: BAD -1 (a number is not as told, there is no such VARIABLE, BLOCK, STEP, POINT, IMAGE, "
            + "SHEET), STATE -2 (as told), FULL -3, NONE -4 (there is none),");
        Check.due("BAD", PointMaker.BAD, -1);
        Check.due("STATE", PointMaker.STATE, -2);
        Check.due("FULL", PointMaker.FULL, -3);
        Check.due("NONE", PointMaker.NONE, -4);
    }

    /** Where two answers fit, the one that is told first: BAD ahead of all the others. */
    private static void firstThatFits() {
        Check.sentence("the first that fits;");
        PointMaker x = new PointMaker();
        for (int i = 0; i < 320; i++) {
            x.feed(' ');
        }
        Check.due("feed: BAD, FULL", x.feed(128), -1);
        Check.due("feed: FULL", x.feed(127), -3);
        Check.due("back: BAD, STATE", x.back(2), -1);
        Check.due("back: STATE", x.back(1), -2);
        Check.due("told: BAD, NONE", x.told(16), -1);
        Check.due("told: NONE", x.told(15), -4);
        Check.due("agree: BAD, NONE", x.agree(0, 51, 0), -1);
        Check.due("agree: BAD, NONE", x.agree(0, 50, 3), -1);
        Check.due("agree: NONE", x.agree(0, 50, 2), -4);
        Check.due("sheet: BAD, SIZE", x.sheet(4, 0, -1), -1);
        Check.due("sheet: BAD, SIZE", x.sheet(3, 3, -1), -1);
        Check.due("sheet: SIZE", x.sheet(3, 2, -1), -14);
        Check.due("lay: BAD, INDEX", x.lay(4, -1, 0), -1);
        Check.due("lay: NULL, INDEX", x.lay(3, -1, 0), -11);
        Check.due("read: BAD, NULL", x.read(3, 3, 0, 1), -1);
        x = Check.of("block;say a;stop;").x;
        Check.due("held: BAD, NONE", x.held(1, 0), -1);
        Check.due("held: NONE", x.held(0, 0), -4);
        Check.due("block: BAD, NONE", x.block(1, 3), -1);
        Check.due("block: NONE", x.block(0, 3), -4);
        Check.due("step: BAD, NONE", x.step(1, 1), -1);
        Check.due("step: NONE", x.step(0, 1), -4);
        Check.due("left: BAD, NONE", x.left(0, 1, 1), -1);
        Check.due("left: NONE", x.left(0, 0, 1), -4);
        Check.due("point: BAD, NONE", x.point(1, 3), -1);
        Check.due("point: NONE", x.point(0, 3), -4);
        Check.due("where: BAD, NONE", x.where(0, -1, 0, 0), -1);
        Check.due("where: NONE", x.where(0, 5, 0, 0), -4);
        Check.due("give: BAD, NONE", x.give(0, 100), -1);
        Check.due("give: NONE", x.give(0, 99), -4);
    }

    /** An object in which each thing that a call could change is another than at first. */
    private static Check lived() {
        Check c = Check.of("block;set a b less 3;say c;if d 1 0;block;goto 2;block;stop;");
        c.x.give(2, 22);
        c.x.keep(0);
        c.x.alter(0, 4, 4);
        c.x.give(3, 1);
        c.x.wise(0);
        c.x.begin(0, 11);
        c.x.begin(5, 55);
        c.x.sheet(0, 1, 4);
        c.x.lay(0, 0, 1);
        c.x.lay(0, 1, 33);
        c.x.lay(0, 2, 6);
        c.x.read(0, 0, 0, 1);
        c.text("block;goto 1;");
        c.feed("xyz");
        c.x.run();
        return c;
    }

    /** All that can be asked; what can be asked by changing alone comes last, the object is of no use behind it. */
    private static String all(PointMaker x) {
        StringBuilder s = new StringBuilder();
        program(x, s);
        for (int w = 0; w < 16; w++) {
            s.append(" told ").append(x.told(w));
        }
        s.append(" torn ").append(x.torn());
        for (int k = 0; k < 4; k++) {
            for (int i = 0; i < 3; i++) {
                s.append(" read ").append(x.read(k, 1, i, 1)).append(' ').append(x.torn());
            }
            s.append(" lay ").append(x.lay(k, 3, 0)).append(x.lay(k, 4, 0));
        }
        for (int v = 0; v < 6; v++) {
            s.append(" begin ").append(x.begin(v, 0)).append(" give ").append(x.give(v, -1));
        }
        for (int k = 0; k < 2; k++) {
            s.append(" back ").append(x.back(k));
        }
        program(x, s);
        return s.toString();
    }

    private static void program(PointMaker x, StringBuilder s) {
        for (int w = 0; w < 8; w++) {
            s.append(" rule ").append(x.rule(w));
        }
        for (int w = 0; w < 5; w++) {
            s.append(" count ").append(w == 1 ? 0 : x.count(w));
        }
        for (int b = 0; b < 4; b++) {
            for (int w = 0; w < 7; w++) {
                s.append(' ').append(x.block(b, w));
            }
        }
        for (int i = 0; i < 3; i++) {
            for (int w = 0; w < 5; w++) {
                s.append(' ').append(x.step(i, w));
            }
        }
        for (int k = 0; k < 3; k++) {
            for (int v = 0; v < 6; v++) {
                s.append(' ').append(x.held(k, v));
            }
        }
    }

    private static List<Refused> refusedCalls() {
        List<Refused> all = new ArrayList<>();
        for (int far : new int[] {-1, LEAST, MOST}) {
            all.add(new Refused("feed(" + far + ")", x -> x.feed(far), -1));
            all.add(new Refused("end(" + far + ")", x -> x.end(far), -1));
            all.add(new Refused("give(" + far + ", 1)", x -> x.give(far, 1), -1));
            all.add(new Refused("wise(" + far + ")", x -> x.wise(far), -1));
            all.add(new Refused("begin(" + far + ", 1)", x -> x.begin(far, 1), -1));
            all.add(new Refused("begin(0, " + far + ")", x -> x.begin(0, far), -1));
            all.add(new Refused("alter(" + far + ", 2, 1)", x -> x.alter(far, 2, 1), -1));
            all.add(new Refused("alter(0, " + far + ", 1)", x -> x.alter(0, far, 1), -1));
            all.add(new Refused("lead(" + far + ", 3, 0)", x -> x.lead(far, 3, 0), -1));
            all.add(new Refused("lead(0, " + far + ", 0)", x -> x.lead(0, far, 0), -1));
            all.add(new Refused("keep(" + far + ")", x -> x.keep(far), -1));
            all.add(new Refused("back(" + far + ")", x -> x.back(far), -1));
            all.add(new Refused("sheet(" + far + ", 0, 1)", x -> x.sheet(far, 0, 1), -1));
            all.add(new Refused("sheet(0, " + far + ", 1)", x -> x.sheet(0, far, 1), -1));
            all.add(new Refused("lay(" + far + ", 0, 1)", x -> x.lay(far, 0, 1), -1));
            all.add(new Refused("lay(0, " + far + ", 1)", x -> x.lay(0, far, 1), -12));
            all.add(new Refused("read(" + far + ", 1, 0, 1)", x -> x.read(far, 1, 0, 1), -1));
            all.add(new Refused("read(0, " + far + ", 0, 1)", x -> x.read(0, far, 0, 1), -1));
            all.add(new Refused("read(0, 1, 0, " + far + ")", x -> x.read(0, 1, 0, far), -1));
            all.add(new Refused("agree(1, " + far + ", 0)", x -> x.agree(1, far, 0), -1));
            for (int w = 1; w < 5; w++) {
                int what = w;
                all.add(new Refused("alter(0, " + w + ", " + far + ")", x -> x.alter(0, what, far), -1));
            }
            for (int w = 3; w < 6; w++) {
                int what = w;
                all.add(new Refused("lead(0, " + w + ", " + far + ")", x -> x.lead(0, what, far), -1));
            }
        }
        addNear(all);
        return all;
    }

    /** The nearest that are refused. */
    private static void addNear(List<Refused> all) {
        all.add(new Refused("feed(128)", x -> x.feed(128), -1));
        all.add(new Refused("end(4)", x -> x.end(4), -1));
        all.add(new Refused("give(6, 1)", x -> x.give(6, 1), -1));
        all.add(new Refused("give(2, 100)", x -> x.give(2, 100), -1));
        all.add(new Refused("give(2, -2)", x -> x.give(2, -2), -1));
        all.add(new Refused("wise(2)", x -> x.wise(2), -1));
        all.add(new Refused("begin(6, 1)", x -> x.begin(6, 1), -1));
        all.add(new Refused("begin(0, 100)", x -> x.begin(0, 100), -1));
        all.add(new Refused("alter(2, 2, 1)", x -> x.alter(2, 2, 1), -1));
        all.add(new Refused("alter(0, 0, 1)", x -> x.alter(0, 0, 1), -1));
        all.add(new Refused("alter(0, 5, 1)", x -> x.alter(0, 5, 1), -1));
        all.add(new Refused("alter(0, 1, 6)", x -> x.alter(0, 1, 6), -1));
        all.add(new Refused("alter(0, 2, 106)", x -> x.alter(0, 2, 106), -1));
        all.add(new Refused("alter(0, 3, 4)", x -> x.alter(0, 3, 4), -1));
        all.add(new Refused("alter(0, 4, 106)", x -> x.alter(0, 4, 106), -1));
        all.add(new Refused("alter(1, 1, 1)", x -> x.alter(1, 1, 1), -1));
        all.add(new Refused("alter(1, 3, 1)", x -> x.alter(1, 3, 1), -1));
        all.add(new Refused("alter(1, 4, 1)", x -> x.alter(1, 4, 1), -1));
        all.add(new Refused("lead(3, 3, 0)", x -> x.lead(3, 3, 0), -1));
        all.add(new Refused("lead(0, 2, 0)", x -> x.lead(0, 2, 0), -1));
        all.add(new Refused("lead(0, 6, 0)", x -> x.lead(0, 6, 0), -1));
        all.add(new Refused("lead(0, 3, 3)", x -> x.lead(0, 3, 3), -1));
        all.add(new Refused("lead(0, 4, 3)", x -> x.lead(0, 4, 3), -1));
        all.add(new Refused("lead(0, 5, 6)", x -> x.lead(0, 5, 6), -1));
        all.add(new Refused("lead(1, 4, 0)", x -> x.lead(1, 4, 0), -1));
        all.add(new Refused("lead(1, 5, 0)", x -> x.lead(1, 5, 0), -1));
        all.add(new Refused("lead(2, 3, 0)", x -> x.lead(2, 3, 0), -1));
        all.add(new Refused("keep(2)", x -> x.keep(2), -1));
        all.add(new Refused("back(2)", x -> x.back(2), -1));
        all.add(new Refused("back(1)", x -> x.back(1), -2));
        all.add(new Refused("sheet(4, 0, 1)", x -> x.sheet(4, 0, 1), -1));
        all.add(new Refused("sheet(0, 3, 1)", x -> x.sheet(0, 3, 1), -1));
        all.add(new Refused("sheet(0, 0, 41)", x -> x.sheet(0, 0, 41), -1));
        all.add(new Refused("sheet(0, 0, -1)", x -> x.sheet(0, 0, -1), -14));
        all.add(new Refused("sheet(1, 0, -1)", x -> x.sheet(1, 0, -1), -14));
        all.add(new Refused("lay(4, 0, 1)", x -> x.lay(4, 0, 1), -1));
        all.add(new Refused("lay(1, 0, 1)", x -> x.lay(1, 0, 1), -11));
        all.add(new Refused("lay(0, 4, 1)", x -> x.lay(0, 4, 1), -12));
        all.add(new Refused("read(4, 1, 0, 1)", x -> x.read(4, 1, 0, 1), -1));
        all.add(new Refused("read(0, 3, 0, 1)", x -> x.read(0, 3, 0, 1), -1));
        all.add(new Refused("read(0, 1, 0, 21)", x -> x.read(0, 1, 0, 21), -1));
        all.add(new Refused("read(0, 1, 0, 2)", x -> x.read(0, 1, 0, 2), -21));
        all.add(new Refused("agree(1, 0, 0)", x -> x.agree(1, 0, 0), -1));
        all.add(new Refused("agree(1, 51, 0)", x -> x.agree(1, 51, 0), -1));
        all.add(new Refused("agree(1, 1, 3)", x -> x.agree(1, 1, 3), -1));
    }

    private static void refusedChangesNothing() {
        Check.sentence("what is refused changes nothing (but THE TAPE, as told).");
        String due = all(lived().x);
        for (Refused r : refusedCalls()) {
            PointMaker x = lived().x;
            Check.due(r.name, r.call.on(x), r.due);
            Check.due("bytes behind " + r.name, x.count(1), 3);
            Check.due("fault() behind " + r.name, x.fault(), 6);
            Check.due("all behind " + r.name, all(x), due);
        }
        // On the other side: each of these does change something, so that all() tells of it.
        Call[] changes = {x -> x.give(2, 23), x -> x.wise(1), x -> x.begin(0, 12), x -> x.alter(0, 4, 5),
            x -> x.lead(0, 5, 2), x -> x.keep(0), x -> x.keep(1), x -> x.back(0), x -> x.sheet(0, 1, 3),
            x -> x.sheet(3, 0, 0), x -> x.lay(0, 1, 34), x -> x.read(0, 1, 0, 1), x -> x.read(0, 1, 0, 0), x -> x.text()};
        for (int i = 0; i < changes.length; i++) {
            PointMaker x = lived().x;
            x.end(0);
            changes[i].on(x);
            Check.due("change " + i + " is seen", all(x).equals(due) ? 0 : 1, 1);
        }
    }

    private static void refusedText() {
        String due = all(lived().x);
        PointMaker x = lived().x;
        Check.due("text()", x.text(), -10);
        Check.due("THE TAPE is empty", x.count(1), 0);
        Check.due("fault()", x.fault(), 2);
        Check.due("all behind text()", all(x), due);
    }

    private static void refusedFull() {
        Check c = Check.of("block;say 1;stop;");
        for (int i = 0; i < 320; i++) {
            c.x.feed(' ');
        }
        for (int i = 0; i < 3; i++) {
            Check.due("feed of the 321st", c.x.feed('$'), -3);
        }
        Check.due("count(1)", c.x.count(1), 320);
        Check.due("rule(0)", c.x.rule(0), 1);
        Check.due("end(320)", c.x.end(320), 320);
        Check.due("text() of 320 blanks", c.x.text(), 0);
        Check.due("feed", c.x.feed('$'), 1);
    }

    private static void refusedWithoutPoints() {
        PointMaker x = Check.of("block;set a a less 1;say a;if a 0 1;block;stop;").x;
        x.give(0, 40);
        x.begin(1, 5);
        x.run();
        Check.due("runLeft()", x.runLeft(), -4);
        Check.due("agree(1, 50, 0)", x.agree(1, 50, 0), -4);
        Check.due("rule(5)", x.rule(5), -3);
        Check.due("told(1)", x.told(1), 40);
        Check.due("told(11)", x.told(11), 5);
        Check.due("count(3)", x.count(3), 5);
    }

    private static void lastCall() {
        Check.sentence("An object is used for at most 512 calls after it has been made;");
        PointMaker x = new PointMaker();
        String text = "block;say 1;stop;";
        int calls = 0;
        for (int turn = 0; turn < 28; turn++) {
            for (int i = 0; i < text.length(); i++) {
                Check.due("feed", x.feed(text.charAt(i)), i + 1);
                calls++;
            }
            Check.due("text()", x.text(), 1);
            calls++;
        }
        for (int turn = calls; turn < 511; turn++) {
            Check.due("begin", x.begin(0, turn % 100), turn == calls ? 0 : (turn - 1) % 100);
        }
        Check.due("the 512th call", x.run(), 1);
    }
}
