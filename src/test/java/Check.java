/** What the tests share: an object under test, calls compared with what is due, and the ending. */
final class Check {
    private static int wrong = 0;
    private static int asked = 0;

    PointMaker x = new PointMaker();

    static void due(String call, long got, long want) {
        asked++;
        if (got != want) {
            wrong++;
            System.out.println(call + " answered " + got + ", due is " + want);
        }
    }

    static void due(String call, String got, String want) {
        asked++;
        if (!got.equals(want)) {
            wrong++;
            System.out.println(call + " answered '" + got + "', due is '" + want + "'");
        }
    }

    /** Behind the last test of a file. */
    static void finish() {
        System.out.println(asked + " answers, " + wrong + " not as due");
        if (wrong != 0) {
            System.exit(1);
        }
    }

    void feed(String s) {
        for (int i = 0; i < s.length(); i++) {
            x.feed(s.charAt(i));
        }
    }

    int text(String s) {
        feed(s);
        return x.text();
    }

    /** A text that is refused, with its place and FAULT. */
    void refused(String s, int place, int fault) {
        due("text of '" + s + "'", text(s), -10 - place);
        due("fault of '" + s + "'", x.fault(), fault);
        due("bytes behind '" + s + "'", x.count(1), 0);
    }

    void taken(String s, int blocks) {
        due("text of '" + s + "'", text(s), blocks);
        due("fault of '" + s + "'", x.fault(), 0);
        due("bytes behind '" + s + "'", x.count(1), 0);
    }

    static Check of(String s) {
        Check c = new Check();
        due("text of '" + s + "' is taken", c.text(s) >= 0 ? 1 : 0, 1);
        return c;
    }

    String shown(int k) {
        StringBuilder all = new StringBuilder();
        for (int i = 0; i < 1000; i++) {
            int c = x.shown(k, i);
            if (c < 0) {
                due("shown behind the last byte", c, PointMaker.BAD);
                break;
            }
            all.append((char) c);
        }
        due("bytes of SHOWN of " + k, x.point(k, 7), all.length());
        return all.toString();
    }
}
