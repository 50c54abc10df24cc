/** What the tests share: an object under test, calls compared with what is due, and the ending. */
final class Check {
    private static int wrong = 0;
    private static int asked = 0;
    private static String kept = "";

    PointMaker x = new PointMaker();

    /** The words of the document that the answers from here on keep; SentencesTest reads these calls. */
    static void sentence(String words) {
        kept = words;
    }

    static void due(String call, long got, long want) {
        asked++;
        if (got != want) {
            tellWrong(call + " answered " + got + ", due is " + want);
        }
    }

    static void due(String call, String got, String want) {
        asked++;
        if (!got.equals(want)) {
            tellWrong(call + " answered '" + got + "', due is '" + want + "'");
        }
    }

    private static void tellWrong(String what) {
        wrong++;
        System.out.println(what + (kept.isEmpty() ? "" : " (" + kept + ")"));
    }

    /** Behind the last test of a file. */
    static void finish() {
        System.out.println(asked + " answers, " + wrong + " not as due");
        if (wrong != 0) {
            System.exit(1);
        }
    }

    void feed(String s) {
        for (int i = 0; i < s.length(); i++) {
            x.feed(s.charAt(i));
        }
    }

    int text(String s) {
        feed(s);
        return x.text();
    }

    /** A text that is refused, with its place and FAULT. */
    void refused(String s, int place, int fault) {
        due("text of '" + s + "'", text(s), -10 - place);
        due("fault of '" + s + "'", x.fault(), fault);
        due("bytes behind '" + s + "'", x.count(1), 0);
    }

    void taken(String s, int blocks) {
        due("text of '" + s + "'", text(s), blocks);
        due("fault of '" + s + "'", x.fault(), 0);
        due("bytes behind '" + s + "'", x.count(1), 0);
    }

    /** As refused(), on a new object: one object is for 512 calls. */
    static void refuses(String s, int place, int fault) {
        Check c = new Check();
        c.refused(s, place, fault);
        due("BLOCKS behind '" + s + "'", c.x.rule(0), 0);
    }

    /** As taken(), on a new object. */
    static PointMaker takes(String s, int blocks) {
        Check c = new Check();
        c.taken(s, blocks);
        due("BLOCKS behind '" + s + "'", c.x.rule(0), blocks);
        return c.x;
    }

    static Check of(String s) {
        Check c = new Check();
        due("text of '" + s + "' is taken", c.text(s) >= 0 ? 1 : 0, 1);
        return c;
    }

    String shown(int k) {
        StringBuilder all = new StringBuilder();
        for (int i = 0; i < 1000; i++) {
            int c = x.shown(k, i);
            if (c < 0) {
                due("shown behind the last byte", c, PointMaker.BAD);
                break;
            }
            all.append((char) c);
        }
        due("bytes of SHOWN of " + k, x.point(k, 7), all.length());
        return all.toString();
    }
}
