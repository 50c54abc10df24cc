import java.util.ArrayDeque;
import java.util.ArrayList;
import java.util.Arrays;
import java.util.HashMap;
import java.util.HashSet;
import java.util.List;
import java.util.Map;
import java.util.Random;
import java.util.Set;

/**
 * Random calls on PointMaker and on a model that is written in another way, from the document alone:
 * with objects, texts and sets in place of rows and bits, nothing kept ready. Both have to answer alike.
 */
public final class ModelTest {
    static final List<String> OPS = List.of("plus", "less", "same", "more");

    static final class Step {
        boolean say;
        int target;
        String first;
        int op;
        String second;

        Step copy() {
            Step s = new Step();
            s.say = say;
            s.target = target;
            s.first = first;
            s.op = op;
            s.second = second;
            return s;
        }

        String show() {
            return say ? "say " + first + ";"
                : "set " + name(target) + " " + first + " " + OPS.get(op) + " " + second + ";";
        }

        int part(int what) {
            switch (what) {
                case 0: return say ? 1 : 0;
                case 1: return say ? -4 : target;
                case 2: return number(first);
                case 3: return say ? -4 : op;
                case 4: return say ? -4 : number(second);
                default: return -1;
            }
        }

        boolean reads(int v) {
            return first.equals(name(v)) || !say && second.equals(name(v));
        }
    }

    static final class Block {
        List<Step> steps = new ArrayList<>();
        String end = "stop";
        int one = -4;
        int two = -4;
        int asked = -4;
        // Of a POINT alone.
        int block;
        String held;
        int leader = -4;

        Block copy() {
            Block b = new Block();
            for (Step s : steps) {
                b.steps.add(s.copy());
            }
            b.end = end;
            b.one = one;
            b.two = two;
            b.asked = asked;
            return b;
        }

        int part(int what) {
            switch (what) {
                case 1: return steps.size();
                case 2: return List.of("goto", "if", "stop").indexOf(end);
                case 3: return one;
                case 4: return two;
                default: return asked;
            }
        }

        String show(int k) {
            StringBuilder s = new StringBuilder("p" + k + ":");
            for (Step t : steps) {
                s.append(" ").append(t.show());
            }
            s.append(" ").append(end);
            if (end.equals("if")) {
                s.append(" ").append(name(asked)).append(" p").append(one).append(" p").append(two);
            } else if (end.equals("goto")) {
                s.append(" p").append(one);
            }
            return s.append(";").toString();
        }
    }

    static String name(int v) {
        return String.valueOf("abcdef".charAt(v));
    }

    static int number(String operand) {
        int v = "abcdef".indexOf(operand);
        return v >= 0 ? 100 + v : Integer.parseInt(operand);
    }

    static String operand(int n) {
        return n >= 100 ? name(n - 100) : String.valueOf(n);
    }

    static final class Refused extends RuntimeException {
        private static final long serialVersionUID = 1;
        final int fault;
        final int place;

        Refused(int fault, int place) {
            this.fault = fault;
            this.place = place;
        }
    }

    static final class Parser {
        final String s;
        int at = 0;
        int start;
        String token;
        List<Block> blocks = new ArrayList<>();
        int steps = 0;

        Parser(String s) {
            this.s = s;
            peel();
        }

        void peel() {
            while (at < s.length() && s.charAt(at) == ' ') {
                at++;
            }
            start = at;
            String rest = s.substring(at);
            if (rest.isEmpty()) {
                token = "";
                return;
            }
            token = rest.replaceFirst("(?s)^([a-z]+|[0-9]+|;)?.*$", "$1");
            if (token.isEmpty() || token.matches("[0-9]{3,}")) {
                throw new Refused(1, start);
            }
            at += token.length();
        }

        String take(String pattern) {
            if (!token.matches(pattern)) {
                throw new Refused(2, start);
            }
            String t = token;
            peel();
            return t;
        }

        int takeBlock() {
            if (token.matches("[0-9]+") && Integer.parseInt(token) > 7) {
                throw new Refused(3, start);
            }
            return Integer.parseInt(take("[0-9]+"));
        }

        String takeOperand() {
            String t = take("[a-f]|[0-9]+");
            return t.matches("[0-9]+") ? String.valueOf(Integer.parseInt(t)) : t;
        }

        List<Block> parse() {
            while (!token.isEmpty()) {
                if (token.equals("block") && blocks.size() == 8) {
                    throw new Refused(5, start);
                }
                take("block");
                take(";");
                Block b = new Block();
                blocks.add(b);
                while (token.equals("set") || token.equals("say")) {
                    if (++steps > 24) {
                        throw new Refused(5, start);
                    }
                    Step t = new Step();
                    t.say = take("set|say").equals("say");
                    if (!t.say) {
                        t.target = "abcdef".indexOf(take("[a-f]"));
                    }
                    t.first = takeOperand();
                    t.second = "0";
                    if (!t.say && token.matches("[a-z]+")) {
                        t.op = OPS.indexOf(take("plus|less|same|more"));
                        t.second = takeOperand();
                    }
                    take(";");
                    b.steps.add(t);
                }
                b.end = take("goto|if|stop");
                if (b.end.equals("if")) {
                    b.asked = "abcdef".indexOf(take("[a-f]"));
                    b.one = takeBlock();
                    b.two = takeBlock();
                } else if (b.end.equals("goto")) {
                    b.one = takeBlock();
                }
                take(";");
            }
            for (Block b : blocks) {
                if (Math.max(b.one, b.two) >= blocks.size()) {
                    throw new Refused(6, s.length());
                }
            }
            return blocks;
        }
    }

    static final class Told {
        int said;
        int sayings;
        int way;
        int steps;
        boolean stopped;
        int[] values;
    }

    static int apply(int op, int x, int y) {
        return op == 0 ? Math.min(99, x + y) : op == 1 ? Math.max(0, x - y) : op == 2 ? (x == y ? 1 : 0) : x > y ? 1 : 0;
    }

    static int eval(String operand, int[] values) {
        int n = number(operand);
        return n >= 100 ? values[n - 100] : n;
    }

    static Told go(List<Block> blocks, int[] values) {
        Told t = new Told();
        t.values = values;
        t.stopped = blocks.isEmpty();
        int at = 0;
        while (!t.stopped && t.way < 300) {
            Block b = blocks.get(at);
            t.way++;
            for (Step s : b.steps) {
                t.steps++;
                if (s.say) {
                    t.sayings++;
                    t.said = 31 * t.said + eval(s.first, values) + 1;
                } else {
                    values[s.target] = apply(s.op, eval(s.first, values), eval(s.second, values));
                }
            }
            if (b.end.equals("stop")) {
                t.stopped = true;
            } else {
                at = b.end.equals("goto") || values[b.asked] != 0 ? b.one : b.two;
            }
        }
        return t;
    }

    static final class Image {
        List<Block> blocks = new ArrayList<>();
        Map<Integer, Integer> given = new HashMap<>();
        int wise = 1;

        Image copy() {
            Image i = new Image();
            for (Block b : blocks) {
                i.blocks.add(b.copy());
            }
            i.given.putAll(given);
            i.wise = wise;
            return i;
        }
    }

    static final class Model {
        StringBuilder tape = new StringBuilder();
        int fault = 0;
        Image now = new Image();
        Image[] images = new Image[2];
        int[] starts = new int[6];
        Told latest;
        Object[] sheets = new Object[4];
        int torn = 0;

        Set<Integer> unknown() {
            Set<Integer> u = new HashSet<>();
            for (int v = 0; v < 6; v++) {
                if (!now.given.containsKey(v)) {
                    u.add(v);
                }
            }
            for (int pass = 0; pass < 10; pass++) {
                for (Block b : now.blocks) {
                    for (Step s : b.steps) {
                        for (int v : new ArrayList<>(u)) {
                            if (!s.say && s.reads(v)) {
                                u.add(s.target);
                            }
                        }
                    }
                }
            }
            return u;
        }

        /** Looked for on all ways, one VARIABLE at a time. */
        boolean readAhead(int b, int v) {
            Set<Integer> seen = new HashSet<>();
            ArrayDeque<Integer> open = new ArrayDeque<>();
            open.add(b);
            while (!open.isEmpty()) {
                int at = open.poll();
                if (at < 0 || !seen.add(at)) {
                    continue;
                }
                Block block = now.blocks.get(at);
                boolean hidden = false;
                for (Step s : block.steps) {
                    if (!hidden && s.reads(v)) {
                        return true;
                    }
                    hidden |= !s.say && s.target == v;
                }
                if (!hidden) {
                    if (block.asked == v) {
                        return true;
                    }
                    open.add(block.one);
                    open.add(block.two);
                }
            }
            return false;
        }

        /** null: more than 40. */
        List<Block> points() {
            List<Block> points = new ArrayList<>();
            if (now.blocks.isEmpty()) {
                return points;
            }
            Set<Integer> unknown = unknown();
            Map<String, Integer> found = new HashMap<>();
            int[] first = new int[6];
            now.given.forEach((v, x) -> first[v] = x);
            meet(points, found, unknown, 0, first, -4);
            for (int k = 0; k < points.size(); k++) {
                if (points.size() > 40) {
                    return null;
                }
                Block p = points.get(k);
                Block b = now.blocks.get(p.block);
                int[] values = Arrays.stream(p.held.split(",")).mapToInt(Integer::parseInt).toArray();
                for (Step s : b.steps) {
                    if (!s.say && !unknown.contains(s.target)) {
                        values[s.target] = apply(s.op, eval(s.first, values), eval(s.second, values));
                        continue;
                    }
                    Step t = s.copy();
                    t.first = known(s.first, values, unknown);
                    t.second = known(s.second, values, unknown);
                    p.steps.add(t);
                }
                p.end = b.end;
                if (b.end.equals("if") && unknown.contains(b.asked)) {
                    p.asked = b.asked;
                    p.one = meet(points, found, unknown, b.one, values, k);
                    p.two = meet(points, found, unknown, b.two, values, k);
                } else if (!b.end.equals("stop")) {
                    int to = b.end.equals("goto") || values[b.asked] != 0 ? b.one : b.two;
                    p.end = "goto";
                    p.one = meet(points, found, unknown, to, values, k);
                }
            }
            return points.size() > 40 ? null : points;
        }

        String known(String operand, int[] values, Set<Integer> unknown) {
            int n = number(operand);
            return n >= 100 && !unknown.contains(n - 100) ? String.valueOf(values[n - 100]) : operand;
        }

        int meet(List<Block> points, Map<String, Integer> found, Set<Integer> unknown, int b, int[] values, int from) {
            StringBuilder held = new StringBuilder();
            for (int v = 0; v < 6; v++) {
                boolean told = !unknown.contains(v) && (now.wise == 0 || readAhead(b, v));
                held.append(told ? values[v] : 0).append(",");
            }
            Integer k = found.get(b + ":" + held);
            if (k == null) {
                k = points.size();
                found.put(b + ":" + held, k);
                Block p = new Block();
                p.block = b;
                p.held = held.toString();
                points.add(p);
            }
            if (points.get(k).leader == -4) {
                points.get(k).leader = from;
            }
            return k;
        }

        List<Block> somePoints() {
            List<Block> p = points();
            return p == null ? new ArrayList<>() : p;
        }

        int[] values(int[] from, Set<Integer> in) {
            int[] values = new int[6];
            for (int v = 0; v < 6; v++) {
                if (in == null || in.contains(v)) {
                    values[v] = now.given.getOrDefault(v, from[v]);
                }
            }
            return values;
        }

        static int mask(Set<Integer> set) {
            int m = 0;
            for (int v : set) {
                m |= 1 << v;
            }
            return m;
        }

        static boolean in(int x, int from, int to) {
            return x >= from && x <= to;
        }

        List<Step> steps() {
            List<Step> all = new ArrayList<>();
            for (Block b : now.blocks) {
                all.addAll(b.steps);
            }
            return all;
        }

        int text() {
            String s = tape.toString();
            tape.setLength(0);
            fault = 0;
            try {
                Image next = new Image();
                next.blocks = new Parser(s).parse();
                now = next;
                images = new Image[2];
                latest = null;
                return now.blocks.size();
            } catch (Refused r) {
                fault = r.fault;
                return -10 - r.place;
            }
        }

        int rule(int what) {
            if (what == 5) {
                List<Block> p = points();
                return p == null ? -3 : p.size();
            }
            int sum = 0;
            List<Block> p = somePoints();
            for (int k = 0; k < p.size(); k++) {
                sum += what == 6 ? p.get(k).steps.size() : p.get(k).show(k).length();
            }
            switch (what) {
                case 0: return now.blocks.size();
                case 1: return steps().size();
                case 2: return mask(unknown());
                case 3: return mask(now.given.keySet());
                case 4: return now.wise;
                case 6: case 7: return sum;
                default: return -1;
            }
        }

        int block(int b, int what) {
            if (!in(b, 0, now.blocks.size() - 1) || !in(what, 0, 6)) {
                return -1;
            }
            Block block = now.blocks.get(b);
            if (what == 0) {
                return block.steps.isEmpty() ? -4 : steps().indexOf(block.steps.get(0));
            }
            if (what == 6) {
                int m = 0;
                for (int v = 0; v < 6; v++) {
                    m |= readAhead(b, v) ? 1 << v : 0;
                }
                return m;
            }
            return block.part(what);
        }

        int point(int k, int what) {
            List<Block> p = somePoints();
            if (!in(k, 0, p.size() - 1) || !in(what, 0, 7)) {
                return -1;
            }
            Block b = p.get(k);
            return what == 0 ? b.block : what == 6 ? b.leader : what == 7 ? b.show(k).length() : b.part(what);
        }

        int held(int k, int v) {
            List<Block> p = somePoints();
            if (!in(k, 0, p.size() - 1) || !in(v, 0, 5)) {
                return -1;
            }
            return unknown().contains(v) ? -4 : Integer.parseInt(p.get(k).held.split(",")[v]);
        }

        Step leftStep(int k, int i) {
            List<Block> p = somePoints();
            return in(k, 0, p.size() - 1) && in(i, 0, p.get(k).steps.size() - 1) ? p.get(k).steps.get(i) : null;
        }

        int shown(int k, int i) {
            List<Block> p = somePoints();
            if (!in(k, 0, p.size() - 1) || !in(i, 0, p.get(k).show(k).length() - 1)) {
                return -1;
            }
            return p.get(k).show(k).charAt(i);
        }

        int where(int k, int i, int m, int j) {
            List<Block> p = somePoints();
            if (!in(k, 0, p.size() - 1) || i < 0 || leftStep(m, j) == null) {
                return -1;
            }
            int at = p.get(k).show(k).indexOf(leftStep(m, j).show(), i);
            return at < 0 ? -4 : at;
        }

        int begin(int v, int x) {
            if (!in(v, 0, 5) || !in(x, 0, 99)) {
                return -1;
            }
            int was = starts[v];
            starts[v] = x;
            return was;
        }

        int runOf(List<Block> web, Set<Integer> in) {
            latest = go(web, values(starts, in));
            return latest.stopped ? latest.steps : -2;
        }

        int told(int what) {
            if (!in(what, 0, 3) && !in(what, 10, 15)) {
                return -1;
            }
            if (latest == null) {
                return what == 0 ? 0 : -4;
            }
            return what == 0 ? latest.said : what == 1 ? latest.sayings : what == 2 ? latest.way
                : what == 3 ? (latest.stopped ? 1 : 0) : latest.values[what - 10];
        }

        int agree(int seed, int n, int what) {
            if (!in(n, 1, 50) || !in(what, 0, 2)) {
                return -1;
            }
            List<Block> p = somePoints();
            if (p.isEmpty()) {
                return -4;
            }
            Set<Integer> unknown = unknown();
            int sum = 0;
            long s = seed & 0xffffffffL;
            for (int i = 0; i < n; i++) {
                int[] drawn = new int[6];
                for (int v = 0; v < 6; v++) {
                    s = s * 1103515245L + 12345L & 0xffffffffL;
                    drawn[v] = (int) (s / 65536 % 32768 % 12);
                }
                Told a = go(now.blocks, values(drawn, null));
                Told b = go(p, values(drawn, unknown));
                boolean same = a.said == b.said && a.stopped == b.stopped;
                for (int v : unknown) {
                    same &= a.values[v] == b.values[v];
                }
                sum += what == 0 ? (same ? 1 : 0) : what == 1 ? (a.stopped ? 1 : 0) : a.steps - b.steps;
            }
            return sum;
        }

        int alter(int i, int what, int v) {
            if (!in(i, 0, steps().size() - 1) || !in(what, 1, 4)) {
                return -1;
            }
            Step s = steps().get(i);
            if (s.say && what != 2 || !in(v, 0, what == 1 ? 5 : what == 3 ? 3 : 105)) {
                return -1;
            }
            int was = s.part(what);
            switch (what) {
                case 1: s.target = v; break;
                case 2: s.first = operand(v); break;
                case 3: s.op = v; break;
                default: s.second = operand(v);
            }
            return was;
        }

        int lead(int b, int what, int v) {
            if (!in(b, 0, now.blocks.size() - 1) || !in(what, 3, 5)) {
                return -1;
            }
            Block block = now.blocks.get(b);
            if (block.part(what) == -4 || !in(v, 0, what == 5 ? 5 : now.blocks.size() - 1)) {
                return -1;
            }
            int was = block.part(what);
            switch (what) {
                case 3: block.one = v; break;
                case 4: block.two = v; break;
                default: block.asked = v;
            }
            return was;
        }

        int sheet(int k, int lane, int n) {
            if (!in(k, 0, 3) || !in(lane, 0, 2) || n > 40) {
                return -1;
            }
            try {
                sheets[k] = lane == 0 ? new byte[n] : lane == 1 ? new short[n] : (Object) new int[n];
                return 1;
            } catch (NegativeArraySizeException e) {
                return -14;
            }
        }

        int lay(int k, int i, int v) {
            if (!in(k, 0, 3)) {
                return -1;
            }
            try {
                if (sheets[k] instanceof byte[]) {
                    ((byte[]) sheets[k])[i] = (byte) v;
                } else if (sheets[k] instanceof short[]) {
                    ((short[]) sheets[k])[i] = (short) v;
                } else {
                    ((int[]) sheets[k])[i] = v;
                }
                return 1;
            } catch (NullPointerException e) {
                return -11;
            } catch (IndexOutOfBoundsException e) {
                return -12;
            }
        }

        static int cell(Object row, int i) {
            return row instanceof byte[] ? ((byte[]) row)[i] : row instanceof short[] ? ((short[]) row)[i]
                : ((int[]) row)[i];
        }

        int read(int k, int lane, int f, int n) {
            if (!in(k, 0, 3) || !in(lane, 0, 2) || !in(n, 0, 20)) {
                return -1;
            }
            int[] was = starts.clone();
            int came = 0;
            int found = 0;
            try {
                for (int i = 0; i < n; i++) {
                    Object row = lane == 0 ? (Object) (byte[]) sheets[k] : lane == 1 ? (short[]) sheets[k]
                        : (int[]) sheets[k];
                    int v = cell(row, f + 2 * i);
                    if (begin(v, cell(row, f + 2 * i + 1)) < 0) {
                        starts = was;
                        return -20 - i;
                    }
                    came++;
                }
            } catch (NullPointerException e) {
                found = 1;
            } catch (IndexOutOfBoundsException e) {
                found = 2;
            } catch (ClassCastException e) {
                found = 3;
            }
            torn = found;
            return came;
        }

        int count(int what) {
            int sum = 0;
            for (Step s : steps()) {
                sum += number(s.first) < 100 ? number(s.first) : 0;
                sum += !s.say && number(s.second) < 100 ? number(s.second) : 0;
            }
            switch (what) {
                case 0: return (images[0] == null ? 0 : 1) + (images[1] == null ? 0 : 1);
                case 1: return tape.length();
                case 2: return sheets[0] == null ? -4 : java.lang.reflect.Array.getLength(sheets[0]);
                case 3: return Arrays.stream(starts).sum();
                case 4: return sum;
                default: return -1;
            }
        }

        int call(String name, int[] a) {
            switch (name) {
                case "feed":
                    if (!in(a[0], 0, 127)) {
                        return -1;
                    }
                    if (tape.length() == 320) {
                        return -3;
                    }
                    return tape.append((char) a[0]).length();
                case "end":
                    if (!in(a[0], 0, tape.length())) {
                        return -1;
                    }
                    int had = tape.length();
                    tape.setLength(a[0]);
                    return had;
                case "text": return text();
                case "fault": return fault;
                case "rule": return rule(a[0]);
                case "block": return block(a[0], a[1]);
                case "step":
                    return in(a[0], 0, steps().size() - 1) ? steps().get(a[0]).part(a[1]) : -1;
                case "give":
                    if (!in(a[0], 0, 5) || !in(a[1], -1, 99)) {
                        return -1;
                    }
                    Integer was = a[1] < 0 ? now.given.remove(a[0]) : now.given.put(a[0], a[1]);
                    return was == null ? -4 : was;
                case "wise":
                    if (!in(a[0], 0, 1)) {
                        return -1;
                    }
                    int wise = now.wise;
                    now.wise = a[0];
                    return wise;
                case "point": return point(a[0], a[1]);
                case "held": return held(a[0], a[1]);
                case "left": return leftStep(a[0], a[1]) == null ? -1 : leftStep(a[0], a[1]).part(a[2]);
                case "shown": return shown(a[0], a[1]);
                case "where": return where(a[0], a[1], a[2], a[3]);
                case "begin": return begin(a[0], a[1]);
                case "run": return runOf(now.blocks, null);
                case "runLeft": return somePoints().isEmpty() ? -4 : runOf(somePoints(), unknown());
                case "told": return told(a[0]);
                case "agree": return agree(a[0], a[1], a[2]);
                case "alter": return alter(a[0], a[1], a[2]);
                case "lead": return lead(a[0], a[1], a[2]);
                case "keep":
                    if (!in(a[0], 0, 1)) {
                        return -1;
                    }
                    int there = images[a[0]] == null ? 0 : 1;
                    images[a[0]] = now.copy();
                    return there;
                case "back":
                    if (!in(a[0], 0, 1)) {
                        return -1;
                    }
                    if (images[a[0]] == null) {
                        return -2;
                    }
                    now = images[a[0]].copy();
                    latest = null;
                    return now.blocks.size();
                case "sheet": return sheet(a[0], a[1], a[2]);
                case "lay": return lay(a[0], a[1], a[2]);
                case "read": return read(a[0], a[1], a[2], a[3]);
                case "torn": return torn;
                default: return count(a[0]);
            }
        }
    }

    static int real(PointMaker x, String name, int[] a) {
        switch (name) {
            case "feed": return x.feed(a[0]);
            case "end": return x.end(a[0]);
            case "text": return x.text();
            case "fault": return x.fault();
            case "rule": return x.rule(a[0]);
            case "block": return x.block(a[0], a[1]);
            case "step": return x.step(a[0], a[1]);
            case "give": return x.give(a[0], a[1]);
            case "wise": return x.wise(a[0]);
            case "point": return x.point(a[0], a[1]);
            case "held": return x.held(a[0], a[1]);
            case "left": return x.left(a[0], a[1], a[2]);
            case "shown": return x.shown(a[0], a[1]);
            case "where": return x.where(a[0], a[1], a[2], a[3]);
            case "begin": return x.begin(a[0], a[1]);
            case "run": return x.run();
            case "runLeft": return x.runLeft();
            case "told": return x.told(a[0]);
            case "agree": return x.agree(a[0], a[1], a[2]);
            case "alter": return x.alter(a[0], a[1], a[2]);
            case "lead": return x.lead(a[0], a[1], a[2]);
            case "keep": return x.keep(a[0]);
            case "back": return x.back(a[0]);
            case "sheet": return x.sheet(a[0], a[1], a[2]);
            case "lay": return x.lay(a[0], a[1], a[2]);
            case "read": return x.read(a[0], a[1], a[2], a[3]);
            case "torn": return x.torn();
            default: return x.count(a[0]);
        }
    }

    static final Random R = new Random(20261118);

    static int up(int n) {
        return R.nextInt(n);
    }

    static String someOperand() {
        return up(2) == 0 ? name(up(6)) : String.valueOf(up(3) == 0 ? up(100) : up(8));
    }

    static String someText() {
        int blocks = up(30) == 0 ? 9 : 1 + up(6);
        StringBuilder s = new StringBuilder();
        for (int b = 0; b < blocks; b++) {
            s.append("block;");
            int steps = up(40) == 0 ? 25 : up(4);
            for (int i = 0; i < steps; i++) {
                if (steps == 25 || up(3) == 0) {
                    s.append("say ").append(steps == 25 ? "a" : someOperand()).append(";");
                } else {
                    s.append("set ").append(name(up(6))).append(" ").append(someOperand());
                    if (up(4) != 0) {
                        s.append(" ").append(OPS.get(up(4))).append(" ").append(someOperand());
                    }
                    s.append(";");
                }
            }
            int most = up(25) == 0 ? 9 : blocks;
            int end = up(5);
            s.append(end == 0 ? "stop;" : end < 3 ? "goto " + up(most) + ";"
                : "if " + name(up(6)) + " " + up(most) + " " + up(most) + ";");
        }
        for (int i = up(8) == 0 ? 1 + up(2) : 0; i > 0; i--) {
            int at = up(s.length());
            switch (up(4)) {
                case 0: s.deleteCharAt(at); break;
                case 1: s.insert(at, " ;a1$09g".charAt(up(8))); break;
                case 2: s.setCharAt(at, " ;a1$09g".charAt(up(8))); break;
                default: s.setLength(at);
            }
            if (s.length() == 0) {
                break;
            }
        }
        return s.toString();
    }

    static final String[] CALLS = {"end 1", "text 0", "fault 0", "rule 1", "block 2", "step 2", "give 2", "give 2",
        "give 2", "wise 1", "point 2", "point 2", "held 2", "left 3", "shown 2", "where 4", "begin 2", "run 0",
        "runLeft 0", "told 1", "told 1", "agree 3", "alter 3", "lead 3", "keep 1", "back 1", "sheet 3", "lay 3", "lay 3",
        "read 4", "torn 0", "count 1", "feed 1", "rule 1"};

    static int someNumber(String name, int i) {
        if (up(60) == 0) {
            return new int[] {Integer.MIN_VALUE, Integer.MAX_VALUE, -1, -2, 100, 106, 1000}[up(7)];
        }
        switch (name + i) {
            case "agree0": return R.nextInt();
            case "agree1": return up(5);
            case "give1": return up(3) == 0 ? -1 : up(3) == 0 ? up(101) : up(12);
            case "begin1": return up(101);
            case "told0": return up(17);
            case "shown1": return up(60);
            case "point0": case "held0": case "left0": case "shown0": case "where0": case "where2": return up(12);
            case "left1": case "where3": return up(3);
            case "where1": return up(30);
            case "step0": case "alter0": return up(14);
            case "alter2": return up(2) == 0 ? up(8) : up(107);
            case "sheet2": return up(12) - 1;
            case "lay2": return up(3) == 0 ? R.nextInt() : up(7);
            case "lay1": case "read2": return up(11) - 1;
            case "read3": return up(6);
            case "sheet0": case "lay0": case "read0": return up(5);
            case "feed0": return up(130);
            case "end0": return up(10);
            case "keep0": case "back0": return up(3);
            case "count0": return up(7) - 1;
            default: return up(8);
        }
    }

    public static void main(String[] args) {
        int rounds = args.length > 0 ? Integer.parseInt(args[0]) : 4000;
        Map<String, Set<Integer>> faults = new HashMap<>();
        for (int round = 0; round < rounds; round++) {
            PointMaker x = new PointMaker();
            Model m = new Model();
            StringBuilder told = new StringBuilder();
            int fed = 0;
            for (int i = 0; i < 80; i++) {
                if (i % 40 == 0) {
                    String s = someText();
                    fed += s.length();
                    // An object is for 512 calls: 80 by chance, those of two texts, and what feeds them.
                    if (fed > 512 - 80 - 4) {
                        break;
                    }
                    for (char c : s.toCharArray()) {
                        Check.due("feed", x.feed(c), m.call("feed", new int[] {c}));
                    }
                    told.append(" '").append(s).append("'");
                    compare(x, m, "text", new int[0], told);
                    compare(x, m, "fault", new int[0], told);
                    faults.computeIfAbsent("text", z -> new HashSet<>()).add(m.fault);
                }
                String[] call = CALLS[up(CALLS.length)].split(" ");
                if ((call[0].equals("text") || call[0].equals("feed")) && up(6) != 0) {
                    continue;
                }
                int[] a = new int[Integer.parseInt(call[1])];
                for (int j = 0; j < a.length; j++) {
                    a[j] = someNumber(call[0], j);
                }
                compare(x, m, call[0], a, told);
                faults.computeIfAbsent("torn", z -> new HashSet<>()).add(m.torn);
            }
        }
        // The rounds have to meet what they are for.
        Check.due("faults met", new java.util.TreeSet<>(faults.get("text")).toString(), "[0, 1, 2, 3, 5, 6]");
        Check.due("torn met", new java.util.TreeSet<>(faults.get("torn")).toString(), "[0, 1, 2, 3]");
        Check.finish();
    }

    static void compare(PointMaker x, Model m, String name, int[] a, StringBuilder told) {
        told.append(" ").append(name).append(Arrays.toString(a));
        int got = real(x, name, a);
        int want = m.call(name, a);
        Check.due(got == want ? name : told.toString(), got, want);
    }
}
