import java.math.BigInteger;
import java.util.ArrayList;
import java.util.Arrays;
import java.util.List;
import java.util.TreeMap;

/** Many made-up runs of calls, each answer held against a slow model with exact fractions. */
public final class ModelTest {
    private static int wrong = 0;
    private static final int RUNS = 800;

    // ---- fractions

    static final class Q implements Comparable<Q> {
        static final Q ZERO = of(0);
        final BigInteger above;
        final BigInteger below;

        Q(BigInteger above, BigInteger below) {
            BigInteger g = above.gcd(below);
            if (below.signum() < 0) {
                g = g.negate();
            }
            this.above = above.divide(g);
            this.below = below.divide(g);
        }

        static Q of(long n) {
            return new Q(BigInteger.valueOf(n), BigInteger.ONE);
        }

        static Q of(long n, long d) {
            return new Q(BigInteger.valueOf(n), BigInteger.valueOf(d));
        }

        Q plus(Q o) {
            return new Q(above.multiply(o.below).add(o.above.multiply(below)), below.multiply(o.below));
        }

        Q less(Q o) {
            return plus(new Q(o.above.negate(), o.below));
        }

        Q times(Q o) {
            return new Q(above.multiply(o.above), below.multiply(o.below));
        }

        Q by(Q o) {
            return new Q(above.multiply(o.below), below.multiply(o.above));
        }

        int sign() {
            return above.signum();
        }

        public int compareTo(Q o) {
            return less(o).sign();
        }

        long side(int part) {
            return (part == 0 ? above : below).longValueExact();
        }

        long cut() {
            return above.divide(below).longValueExact();
        }
    }

    // ---- the model

    static final class Thing {
        int mass;
        int a;
        int b;
        boolean turning;

        Thing(int mass, int a, int b, boolean turning) {
            this.mass = mass;
            this.a = a;
            this.b = b;
            this.turning = turning;
        }
    }

    static final class State {
        int[][] pads = {{10, 10, 9999}, {-10, 10, 9999}, {-10, -10, 9999}, {10, -10, 9999}};
        List<Thing> parts = new ArrayList<>();
        int[] dial = {0, 5, 0, 0, 50, 0, 0, 0, 0, 0, 100, 100, 100, 100};
        List<TreeMap<Integer, Integer>> charts = List.of(new TreeMap<>(), new TreeMap<>(), new TreeMap<>());

        State copy() {
            State s = new State();
            for (int k = 0; k < 4; k++) {
                s.pads[k] = pads[k].clone();
            }
            for (Thing t : parts) {
                s.parts.add(new Thing(t.mass, t.a, t.b, t.turning));
            }
            s.dial = dial.clone();
            for (int c = 0; c < 3; c++) {
                s.charts.get(c).putAll(charts.get(c));
            }
            return s;
        }

        State with(int what, int v) {
            State s = copy();
            s.dial[what] = v;
            return s;
        }

        boolean stands() {
            for (int k = 0; k < 4; k++) {
                int[] p = pads[k], q = pads[(k + 1) % 4], r = pads[(k + 2) % 4];
                if ((q[0] - p[0]) * (r[1] - q[1]) - (q[1] - p[1]) * (r[0] - q[0]) <= 0) {
                    return false;
                }
            }
            return true;
        }

        Q[] vector() {
            long[][] of = {{1, 0, 1}, {12, 5, 13}, {4, 3, 5}, {3, 4, 5}, {5, 12, 13}};
            long[] v = of[dial[0] % 5];
            long c = v[0], s = v[1];
            for (int q = 0; q < dial[0] / 5; q++) {
                long was = c;
                c = -s;
                s = was;
            }
            return new Q[] {Q.of(c, v[2]), Q.of(s, v[2])};
        }

        /** All that has MASS: mass, x, y. */
        List<Q[]> all() {
            List<Q[]> out = new ArrayList<>();
            Q c = vector()[0], s = vector()[1];
            for (Thing t : parts) {
                Q x = Q.of(t.a), y = Q.of(t.b);
                if (t.turning) {
                    x = Q.of(t.a).times(c).less(Q.of(t.b).times(s));
                    y = Q.of(t.a).times(s).plus(Q.of(t.b).times(c));
                }
                out.add(new Q[] {Q.of(t.mass), x, y});
            }
            for (int hung : new int[] {dial[3], dial[2]}) {
                if (hung > 0) {
                    out.add(new Q[] {Q.of(hung), c.times(Q.of(dial[1])), s.times(Q.of(dial[1]))});
                }
            }
            return out;
        }

        Q sum(int what) {
            Q sum = Q.ZERO;
            for (Q[] t : all()) {
                sum = sum.plus(what == 0 ? t[0] : t[0].times(t[what]));
            }
            return sum;
        }

        List<Q> moments(int k) {
            List<Q> out = new ArrayList<>();
            int[] p = pads[k], q = pads[(k + 1) % 4];
            for (Q[] t : all()) {
                Q x1 = Q.of(q[0] - p[0]), y1 = Q.of(q[1] - p[1]);
                Q x2 = t[1].less(Q.of(p[0])), y2 = t[2].less(Q.of(p[1]));
                out.add(t[0].times(x1.times(y2).less(y1.times(x2))));
            }
            return out;
        }

        Q moment(int k) {
            Q sum = Q.ZERO;
            for (Q q : moments(k)) {
                sum = sum.plus(q);
            }
            return sum;
        }

        /** HOLDING (1) or TIPPING (-1). */
        Q oneSided(int k, int sign) {
            Q sum = Q.ZERO;
            for (Q q : moments(k)) {
                if (q.sign() == sign) {
                    sum = sum.plus(q.times(Q.of(sign)));
                }
            }
            return sum;
        }

        boolean tips() {
            for (int k = 0; k < 4; k++) {
                if (moment(k).sign() < 0) {
                    return true;
                }
            }
            return !stands();
        }

        int liftedPad;

        Q[] pushes() {
            liftedPad = -5;
            if (tips() || sum(0).sign() == 0) {
                return null;
            }
            Q[][] m = new Q[3][4];
            for (int r = 0; r < 3; r++) {
                for (int c = 0; c < 3; c++) {
                    m[r][c] = Q.ZERO;
                    for (int[] p : pads) {
                        m[r][c] = m[r][c].plus(Q.of(weightOf(p, r) * weightOf(p, c)));
                    }
                }
                m[r][3] = sum(r);
            }
            Q[] abc = solve(m);
            Q[] push = new Q[4];
            int least = 0;
            for (int k = 0; k < 4; k++) {
                push[k] = abc[0].plus(abc[1].times(Q.of(pads[k][0]))).plus(abc[2].times(Q.of(pads[k][1])));
                if (push[k].compareTo(push[least]) < 0) {
                    least = k;
                }
            }
            if (push[least].sign() >= 0) {
                return push;
            }
            liftedPad = least;
            Q[][] n = new Q[3][4];
            for (int r = 0; r < 3; r++) {
                int column = 0;
                for (int k = 0; k < 4; k++) {
                    if (k != least) {
                        n[r][column++] = Q.of(weightOf(pads[k], r));
                    }
                }
                n[r][3] = sum(r);
            }
            Q[] three = solve(n);
            int column = 0;
            for (int k = 0; k < 4; k++) {
                push[k] = k == least ? Q.ZERO : three[column++];
                if (push[k].sign() < 0) {
                    return null;
                }
            }
            return push;
        }

        static long weightOf(int[] pad, int row) {
            return row == 0 ? 1 : pad[row - 1];
        }

        static Q[] solve(Q[][] m) {
            for (int c = 0; c < 3; c++) {
                int pivot = c;
                while (m[pivot][c].sign() == 0) {
                    pivot++;
                }
                Q[] row = m[pivot];
                m[pivot] = m[c];
                m[c] = row;
                for (int r = 0; r < 3; r++) {
                    if (r != c) {
                        Q f = m[r][c].by(m[c][c]);
                        for (int k = c; k < 4; k++) {
                            m[r][k] = m[r][k].less(f.times(m[c][k]));
                        }
                    }
                }
            }
            return new Q[] {m[0][3].by(m[0][0]), m[1][3].by(m[1][1]), m[2][3].by(m[2][2])};
        }

        int read(int chart, int reach) {
            TreeMap<Integer, Integer> m = charts.get(chart);
            if (m.containsKey(reach)) {
                return m.get(reach);
            }
            if (m.isEmpty() || m.lastKey() < reach) {
                return 0;
            }
            if (m.firstKey() > reach) {
                return m.firstEntry().getValue();
            }
            int x = m.lowerKey(reach), y = m.higherKey(reach);
            return (m.get(x) * (y - reach) + m.get(y) * (reach - x)) / (y - x);
        }

        int allowed(int direction, int reach) {
            int v = read(dial[5], reach);
            v = v * (100 - 5 * dial[6]) / 100;
            if (dial[7] == 1) {
                v = v * 3 / 4;
            } else if (dial[7] == 2) {
                v = Math.max(v * 3 / 4 - dial[6], 0);
            }
            return v * dial[10 + direction / 5] / 100;
        }

        int room() {
            return allowed(dial[0], dial[1]) - dial[2] - dial[3];
        }

        int why() {
            if (!stands()) {
                return 1;
            }
            if (tips() || sum(0).sign() == 0) {
                return 2;
            }
            Q[] push = pushes();
            if (push == null) {
                return 3;
            }
            for (int k = 0; k < 4; k++) {
                if (push[k].compareTo(Q.of(pads[k][2])) > 0) {
                    return 4;
                }
            }
            return room() < 0 ? 5 : 0;
        }
    }

    static final class Model {
        State now = new State();
        State kept = null;
        StringBuilder tape = new StringBuilder();
        List<String[]> plan = new ArrayList<>();
        List<int[]> lifts = new ArrayList<>();
        long[][] lists = new long[4][];

        static boolean in(long v, long a, long b) {
            return v >= a && v <= b;
        }

        long pad(int pad, int x, int y, int limit) {
            if (!in(pad, 0, 3)) {
                return -1;
            }
            if (!in(x, -30, 30) || !in(y, -30, 30) || !in(limit, 0, 9999)) {
                return -2;
            }
            now.pads[pad] = new int[] {x, y, limit};
            return now.stands() ? 1 : 0;
        }

        long part(int mass, int a, int b, boolean turning) {
            if (!in(mass, 1, 999) || !in(a, -40, 40) || !in(b, -40, 40)) {
                return -2;
            }
            if (now.parts.size() == 8) {
                return -4;
            }
            now.parts.add(new Thing(mass, a, b, turning));
            return now.parts.size() - 1;
        }

        long mass(int part, int v) {
            if (!in(part, 0, now.parts.size() - 1)) {
                return -1;
            }
            if (!in(v, 1, 999)) {
                return -2;
            }
            int was = now.parts.get(part).mass;
            now.parts.get(part).mass = v;
            return was;
        }

        long put(int what, int v) {
            if (told(what) == -1) {
                return -1;
            }
            int[] top = {19, 60, 999, 9999, 999, 2, 9, 2};
            if (!in(v, what == 4 ? 1 : 0, what < 8 ? top[what] : 100)) {
                return -2;
            }
            int was = now.dial[what];
            now.dial[what] = v;
            return was;
        }

        long told(int what) {
            return in(what, 0, 7) || in(what, 10, 13) ? now.dial[what] : -1;
        }

        long entry(int chart, int reach, int v) {
            if (!in(chart, 0, 2)) {
                return -1;
            }
            if (!in(reach, 0, 60) || !in(v, -1, 9999)) {
                return -2;
            }
            TreeMap<Integer, Integer> m = now.charts.get(chart);
            if (v == -1) {
                return m.remove(reach) == null ? -3 : m.size();
            }
            if (!m.containsKey(reach) && m.size() == 10) {
                return -4;
            }
            m.put(reach, v);
            return m.size();
        }

        long mat(int pad) {
            if (!in(pad, 0, 3)) {
                return -1;
            }
            Q[] push = now.pushes();
            if (push == null) {
                return -3;
            }
            for (int side = 1; side <= 60; side++) {
                if (Q.of((long) side * side * now.dial[4]).compareTo(push[pad]) >= 0) {
                    return side;
                }
            }
            return -5;
        }

        long most() {
            for (int load = 999; load >= 0; load--) {
                if (now.with(3, load).why() == 0) {
                    return load;
                }
            }
            return -5;
        }

        long where(int reach) {
            if (!in(reach, 0, 60)) {
                return -2;
            }
            int bits = 0;
            for (int d = 0; d < 20; d++) {
                if (now.with(1, reach).with(0, d).why() == 0) {
                    bits += 1 << d;
                }
            }
            return bits;
        }

        long farthest(int direction) {
            if (!in(direction, 0, 19)) {
                return -1;
            }
            for (int reach = 60; reach >= 0; reach--) {
                if (now.with(1, reach).with(0, direction).why() == 0) {
                    return reach;
                }
            }
            return -5;
        }

        long way(int direction, int reach) {
            if (!in(direction, 0, 19)) {
                return -1;
            }
            if (!in(reach, 0, 60)) {
                return -2;
            }
            int[][] dist = new int[20][61];
            for (int[] row : dist) {
                Arrays.fill(row, -1);
            }
            if (now.why() != 0) {
                return -5;
            }
            ArrayList<int[]> queue = new ArrayList<>();
            queue.add(new int[] {now.dial[0], now.dial[1]});
            dist[now.dial[0]][now.dial[1]] = 0;
            for (int i = 0; i < queue.size(); i++) {
                int[] at = queue.get(i);
                int[][] to = {{(at[0] + 1) % 20, at[1]}, {(at[0] + 19) % 20, at[1]}, {at[0], at[1] + 1}, {at[0], at[1] - 1}};
                for (int[] t : to) {
                    if (in(t[1], 0, 60) && dist[t[0]][t[1]] < 0 && now.with(0, t[0]).with(1, t[1]).why() == 0) {
                        dist[t[0]][t[1]] = dist[at[0]][at[1]] + 1;
                        queue.add(t);
                    }
                }
            }
            return dist[direction][reach] < 0 ? -5 : dist[direction][reach];
        }

        long ballast(int part) {
            if (!in(part, 0, now.parts.size() - 1)) {
                return -1;
            }
            for (int v = 1; v <= 999; v++) {
                State s = now.copy();
                s.parts.get(part).mass = v;
                if (s.why() == 0) {
                    return v;
                }
            }
            return -5;
        }

        long feed(int letter) {
            if (!in(letter, 1, 127)) {
                return -2;
            }
            if (tape.length() == 100) {
                return -4;
            }
            tape.append((char) letter);
            return tape.length();
        }

        long plan() {
            String text = tape.toString();
            tape.setLength(0);
            List<String[]> steps = new ArrayList<>();
            int at = 0;
            while (true) {
                int begin = at;
                while (at < text.length() && Character.isLowerCase(text.charAt(at))) {
                    at++;
                }
                String word = text.substring(begin, at);
                int top;
                switch (word) {
                    case "set": top = -1; break;
                    case "take": top = 9999; break;
                    case "slew": top = 19; break;
                    case "reach": top = 60; break;
                    case "wind": top = 9; break;
                    default: return -100 - begin;
                }
                String number = "";
                if (top >= 0) {
                    if (at == text.length() || text.charAt(at) != ' ') {
                        return -100 - at;
                    }
                    at++;
                    begin = at;
                    while (at < text.length() && number.length() < 4 && Character.isDigit(text.charAt(at))) {
                        number += text.charAt(at++);
                    }
                    if (number.isEmpty() || Integer.parseInt(number) > top) {
                        return -100 - begin;
                    }
                }
                steps.add(new String[] {word, number});
                if (at == text.length()) {
                    plan = steps;
                    return steps.size();
                }
                if (text.charAt(at) != ';') {
                    return -100 - at;
                }
                at++;
            }
        }

        static List<State> slewed(State from, int goal) {
            List<State> out = new ArrayList<>();
            int on = Math.floorMod(goal - from.dial[0], 20), back = Math.floorMod(from.dial[0] - goal, 20);
            int step = on <= back ? 1 : 19;
            for (State s = from; s.dial[0] != goal; ) {
                s = s.with(0, (s.dial[0] + step) % 20);
                out.add(s);
            }
            return out;
        }

        static List<State> reached(State from, int goal) {
            List<State> out = new ArrayList<>();
            for (State s = from; s.dial[1] != goal; ) {
                s = s.with(1, s.dial[1] + Integer.signum(goal - s.dial[1]));
                out.add(s);
            }
            return out;
        }

        /** Moments, with the step of each in `steps`. */
        List<State> moments(List<Integer> steps) {
            List<State> out = new ArrayList<>();
            out.add(now);
            steps.add(-5);
            for (int i = 0; i < plan.size(); i++) {
                State last = out.get(out.size() - 1);
                String[] step = plan.get(i);
                int n = step[1].isEmpty() ? 0 : Integer.parseInt(step[1]);
                switch (step[0]) {
                    case "slew": out.addAll(slewed(last, n)); break;
                    case "reach": out.addAll(reached(last, n)); break;
                    case "wind": out.add(last.with(6, n)); break;
                    default: out.add(last.with(3, n)); break;
                }
                while (steps.size() < out.size()) {
                    steps.add(i);
                }
            }
            return out;
        }

        long checked(int what) {
            if (!in(what, 0, 3)) {
                return -1;
            }
            if (plan.isEmpty()) {
                return -3;
            }
            List<Integer> steps = new ArrayList<>();
            List<State> moments = moments(steps);
            if (what == 0) {
                return moments.size();
            }
            for (int i = 0; i < moments.size(); i++) {
                int why = moments.get(i).why();
                if (why != 0) {
                    return what == 1 ? i : what == 2 ? steps.get(i) : why;
                }
            }
            return what == 3 ? 0 : -5;
        }

        long spare() {
            if (plan.isEmpty()) {
                return Long.MIN_VALUE;
            }
            long least = Long.MAX_VALUE;
            for (State s : moments(new ArrayList<>())) {
                least = Math.min(least, s.room());
            }
            return least;
        }

        long done() {
            if (plan.isEmpty() || checked(3) != 0) {
                return -3;
            }
            List<State> moments = moments(new ArrayList<>());
            now = moments.get(moments.size() - 1).copy();
            return moments.size();
        }

        long backward() {
            if (plan.isEmpty()) {
                return -3;
            }
            State s = now;
            List<Integer> ahead = new ArrayList<>();
            for (String[] step : plan) {
                if (!step[0].equals("slew") && !step[0].equals("reach")) {
                    return -3;
                }
                int dial = step[0].equals("slew") ? 0 : 1;
                ahead.add(s.dial[dial]);
                s = s.with(dial, Integer.parseInt(step[1]));
            }
            List<State> met = new ArrayList<>();
            met.add(s);
            for (int i = plan.size() - 1; i >= 0; i--) {
                State last = met.get(met.size() - 1);
                met.addAll(plan.get(i)[0].equals("slew") ? slewed(last, ahead.get(i)) : reached(last, ahead.get(i)));
            }
            for (State m : met) {
                if (m.why() != 0) {
                    return 0;
                }
            }
            return 1;
        }

        long seen(int list, int i, int what) {
            if (!in(list, 0, 3) || !in(what, 0, 1)) {
                return -1;
            }
            if (lists[list] == null) {
                return -11;
            }
            if (!in(i, 0, lists[list].length - 4)) {
                return -13;
            }
            int many = 0;
            int least = -5;
            for (int load = 0; load < 1000; load++) {
                Q[] push = now.with(3, load).pushes();
                boolean so = push != null;
                for (int k = 0; so && k < 4; k++) {
                    so = push[k].cut() == lists[list][i + k];
                }
                if (so) {
                    many++;
                    least = least < 0 ? load : least;
                }
            }
            return what == 0 ? many : least;
        }

        long lay(int list, int i) {
            if (!in(list, 0, 3)) {
                return -1;
            }
            if (lists[list] == null) {
                return -11;
            }
            Q[] push = now.pushes();
            if (push == null) {
                return -3;
            }
            if (i < 0) {
                return -13;
            }
            int laid = 0;
            for (int k = 0; k < 4; k++) {
                if ((long) i + k < lists[list].length) {
                    lists[list][i + k] = push[k].cut();
                    laid++;
                }
            }
            return laid == 4 ? 4 : -13;
        }

        long book() {
            lifts.add(new int[] {now.dial[3], now.dial[0], now.dial[1]});
            if (lifts.size() > 8) {
                lifts.remove(0);
            }
            return lifts.size();
        }

        long booked(int i, int what) {
            if (!in(i, 0, lifts.size() - 1) || !in(what, 0, 3)) {
                return -1;
            }
            int[] l = lifts.get(i);
            if (what < 3) {
                return l[what];
            }
            return now.with(3, l[0]).with(0, l[1]).with(1, l[2]).why() == 0 ? 1 : 0;
        }

        long heaviest() {
            int best = -5;
            for (int i = 0; i < lifts.size(); i++) {
                if (best < 0 || lifts.get(i)[0] * lifts.get(i)[2] > lifts.get(best)[0] * lifts.get(best)[2]) {
                    best = i;
                }
            }
            return best;
        }

        long list(int list, int n) {
            if (!in(list, 0, 3)) {
                return -1;
            }
            if (n > 30) {
                return -2;
            }
            if (n < 0) {
                return -14;
            }
            lists[list] = new long[n];
            return 1;
        }

        long set(int list, int i, long v) {
            if (!in(list, 0, 3)) {
                return -1;
            }
            if (lists[list] == null) {
                return -11;
            }
            if (!in(i, 0, lists[list].length - 1)) {
                return -13;
            }
            lists[list][i] = v;
            return 1;
        }

        long get(int list, int i) {
            return in(list, 0, 3) && lists[list] != null && in(i, 0, lists[list].length - 1)
                ? lists[list][i] : Long.MIN_VALUE;
        }

        long count(int what) {
            switch (what) {
                case 0: return now.parts.size();
                case 1: return tape.length();
                case 2: return plan.size();
                case 6: return now.stands() ? 1 : 0;
                default: return in(what, 3, 5) ? now.charts.get(what - 3).size() : -1;
            }
        }
    }

    // ---- the runs

    private static long seed;

    /** A row of numbers that is the same each time. */
    static int pick(int n) {
        seed = seed * 6364136223846793005L + 1442695040888963407L;
        return (int) ((seed >>> 33) % n);
    }

    static int pick(int a, int b) {
        return a + pick(b - a + 1);
    }

    /** Mostly within a .. b, at times just outside it or far away. */
    static int near(int a, int b) {
        switch (pick(24)) {
            case 0: return a - 1;
            case 1: return b + 1;
            case 2: return a;
            case 3: return b;
            case 4: return pick(30) == 0 ? Integer.MIN_VALUE : pick(a, b);
            case 5: return pick(30) == 0 ? Integer.MAX_VALUE : pick(a, b);
            default: return pick(a, b);
        }
    }

    static int run;
    static CranePads x;
    static Model m;

    static void same(String call, long got, long due) {
        if (got != due) {
            wrong++;
            if (wrong < 40) {
                System.out.println("run " + run + ": " + call + " answered " + got + ", due is " + due);
            }
        }
    }

    static void pad(int k, int px, int py, int limit) {
        same("pad", x.pad(k, px, py, limit), m.pad(k, px, py, limit));
    }

    static void put(int what, int v) {
        same("put " + what + " " + v, x.put(what, v), m.put(what, v));
    }

    static void entry(int chart, int reach, int v) {
        same("entry", x.entry(chart, reach, v), m.entry(chart, reach, v));
    }

    static void begin() {
        x = new CranePads();
        m = new Model();
        if (pick(3) > 0) {
            pad(0, pick(2, 20), pick(2, 20), pick(4) == 0 ? pick(0, 900) : 9999);
            pad(1, pick(-20, -2), pick(2, 20), pick(4) == 0 ? pick(0, 900) : 9999);
            pad(2, pick(-20, -2), pick(-20, -2), pick(4) == 0 ? pick(0, 900) : 9999);
            pad(3, pick(2, 20), pick(-20, -2), pick(4) == 0 ? pick(0, 900) : 9999);
        }
        for (int i = pick(4); i >= 0; i--) {
            int mass = pick(1, pick(2) == 0 ? 60 : 999), a = pick(-9, 9), b = pick(-9, 9);
            boolean turning = pick(2) == 0;
            same("part", x.part(mass, a, b, turning), m.part(mass, a, b, turning));
        }
        for (int i = pick(6); i > 0; i--) {
            entry(pick(2), pick(0, 60), pick(0, pick(2) == 0 ? 200 : 3000));
        }
        entry(0, pick(8, 60), pick(0, 2000));
        put(1, pick(0, 20));
        put(3, pick(0, 150));
    }

    static void feedAll(String text) {
        for (int i = 0; i < text.length(); i++) {
            same("feed", x.feed(text.charAt(i)), m.feed(text.charAt(i)));
        }
    }

    static String step() {
        switch (pick(12)) {
            case 0: return "set";
            case 1: return "take " + pick(0, 200);
            case 2: return "wind " + near(0, 9);
            case 3: case 4: case 5: case 6: return "slew " + near(0, 19);
            case 7: return "slew 0" + pick(0, 9);
            case 8: return "take " + near(0, 12000);
            default: return "reach " + near(0, 25);
        }
    }

    static String moveStep() {
        return pick(2) == 0 ? "slew " + pick(0, 19) : "reach " + pick(0, 25);
    }

    static void planCall() {
        StringBuilder text = new StringBuilder();
        boolean moves = pick(2) == 0;
        for (int i = pick(4); i >= 0; i--) {
            text.append(text.length() > 0 ? ";" : "").append(moves ? moveStep() : step());
        }
        if (pick(4) == 0) {
            int at = pick(text.length());
            char c = "; ax0957S_".charAt(pick(10));
            switch (pick(3)) {
                case 0: text.setCharAt(at, c); break;
                case 1: text.deleteCharAt(at); break;
                default: text.insert(at, c); break;
            }
        }
        feedAll(text.toString());
        same("plan " + text, x.plan(), m.plan());
        same("count 2", x.count(2), m.count(2));
    }

    static void planAsked() {
        for (int what = -1; what <= 4; what++) {
            same("checked " + what, x.checked(what), m.checked(what));
        }
        same("spare", x.spare(), m.spare());
        same("backward", x.backward(), m.backward());
    }

    /** How it is: every answer about the whole. */
    static void askAll() {
        same("weight", x.weight(), m.now.sum(0).side(0));
        same("why", x.why(), m.now.why());
        Q[] push = m.now.pushes();
        same("lifted", x.lifted(), push == null ? -3 : m.now.liftedPad);
        for (int k = 0; k < 4; k++) {
            same("mat " + k, x.mat(k), m.mat(k));
            for (int part = 0; part < 2; part++) {
                askOf(k, part, push);
            }
        }
    }

    static void askOf(int k, int part, Q[] push) {
        boolean side = part == 0 || part == 1;
        boolean ok = side && k >= 0 && k <= 3;
        same("push " + k, x.push(k, part), ok && push != null ? push[k].side(part) : Long.MIN_VALUE);
        same("moment " + k, x.moment(k, part), ok ? m.now.moment(k).side(part) : Long.MIN_VALUE);
        long factor = Long.MIN_VALUE;
        if (ok && m.now.oneSided(k, -1).sign() != 0) {
            factor = m.now.oneSided(k, 1).by(m.now.oneSided(k, -1)).side(part);
        }
        same("factor " + k, x.factor(k, part), factor);
        long centre = Long.MIN_VALUE;
        if (side && (k == 0 || k == 1) && m.now.sum(0).sign() != 0) {
            centre = m.now.sum(k + 1).by(m.now.sum(0)).side(part);
        }
        same("centre " + k, x.centre(k, part), centre);
    }

    /** What was told, and numbers that are none. */
    static void askTold() {
        for (int k = -1; k <= 4; k++) {
            for (int what = -1; what <= 3; what++) {
                boolean ok = k >= 0 && k <= 3 && what >= 0 && what <= 2;
                same("padOf", x.padOf(k, what), ok ? m.now.pads[k][what] : Long.MIN_VALUE);
            }
        }
        for (int what = -1; what <= 14; what++) {
            same("told " + what, x.told(what), m.told(what));
            same("count " + what, x.count(what), m.count(what));
        }
        Q[] push = m.now.pushes();
        int[][] strange = {{-1, 0}, {4, 0}, {0, -1}, {0, 2}, {Integer.MIN_VALUE, 1}, {Integer.MAX_VALUE, 0}};
        for (int[] s : strange) {
            askOf(s[0], s[1], push);
            same("mat " + s[0], x.mat(s[0]), m.mat(s[0]));
        }
    }

    static void change() {
        switch (pick(16)) {
            case 0: pad(near(0, 3), near(-30, 30), near(-30, 30), near(0, 9999)); break;
            case 1: pad(pick(0, 3), near(-30, 30), near(-30, 30), near(0, 999)); break;
            case 2: {
                int mass = near(1, 999), a = near(-40, 40), b = near(-40, 40);
                boolean turning = pick(2) == 0;
                same("part", x.part(mass, a, b, turning), m.part(mass, a, b, turning));
                break;
            }
            case 3: {
                int part = near(0, 7), v = near(1, 999);
                same("mass", x.mass(part, v), m.mass(part, v));
                break;
            }
            case 4: put(near(0, 13), near(0, 100)); break;
            case 5: put(0, near(0, 19)); break;
            case 6: put(1, near(0, 60)); break;
            case 7: put(2, near(0, pick(2) == 0 ? 20 : 999)); break;
            case 8: put(3, near(0, pick(2) == 0 ? 150 : 9999)); break;
            case 9: put(4, near(1, pick(2) == 0 ? 5 : 999)); break;
            case 10: put(5, near(0, 2)); break;
            case 11: put(6, near(0, 9)); break;
            case 12: put(7, near(0, 2)); break;
            case 13: put(10 + pick(4), near(0, 100)); break;
            default: entry(near(0, 2), near(0, 60), near(-1, pick(2) == 0 ? 300 : 9999)); break;
        }
    }

    static void askSome() {
        int chart = near(0, 2), direction = near(0, 19), reach = near(0, 60);
        boolean badReach = reach < 0 || reach > 60;
        long read = chart < 0 || chart > 2 ? -1 : badReach ? -2 : m.now.read(chart, reach);
        same("read", x.read(chart, reach), read);
        long allowed = direction < 0 || direction > 19 ? -1 : badReach ? -2 : m.now.allowed(direction, reach);
        same("allowed", x.allowed(direction, reach), allowed);
        same("where", x.where(reach), m.where(reach));
        same("farthest", x.farthest(direction), m.farthest(direction));
    }

    static void rowsAndBook() {
        int list = near(0, 3), i = near(0, 30), n = near(0, 30);
        switch (pick(7)) {
            case 0: same("list", x.list(list, n), m.list(list, n)); break;
            case 1: same("set", x.set(list, i, i * 77777777777L), m.set(list, i, i * 77777777777L)); break;
            case 2: same("get", x.get(list, i), m.get(list, i)); break;
            case 3: same("lay", x.lay(list, i), m.lay(list, i)); break;
            case 4: same("book", x.book(), m.book()); break;
            case 5:
                for (int k = -1; k <= 8; k++) {
                    for (int what = -1; what <= 4; what++) {
                        same("booked " + k + " " + what, x.booked(k, what), m.booked(k, what));
                    }
                }
                break;
            default: same("heaviest", x.heaviest(), m.heaviest()); break;
        }
        for (int k = -1; k <= 30; k++) {
            same("get", x.get(list, k), m.get(list, k));
        }
    }

    static void imageOrUndo() {
        if (pick(2) == 0) {
            m.kept = m.now.copy();
            same("image", x.image(), m.now.parts.size());
        } else {
            if (m.kept != null) {
                m.now = m.kept.copy();
            }
            same("undo", x.undo(), m.kept == null ? -3 : m.now.parts.size());
        }
    }

    static void tapeCall() {
        if (pick(3) == 0) {
            int had = m.tape.length();
            m.tape.setLength(0);
            same("clear", x.clear(), had);
        } else {
            int letter = near(1, 127);
            same("feed", x.feed(letter), m.feed(letter));
        }
    }

    /** The calls that the model answers slowly: one of them a run. */
    static void dearCall() {
        switch (run % 4) {
            case 0: same("most", x.most(), m.most()); break;
            case 1: {
                int direction = near(0, 19), reach = near(0, 25);
                same("way", x.way(direction, reach), m.way(direction, reach));
                break;
            }
            case 2: {
                int part = near(0, m.now.parts.size() - 1);
                same("ballast", x.ballast(part), m.ballast(part));
                break;
            }
            default: {
                int size = pick(2) == 0 ? 4 : pick(4, 30), at = pick(0, size - 4), off = pick(6) == 0 ? 1 : 0;
                same("list", x.list(1, size), m.list(1, size));
                same("lay", x.lay(1, at), m.lay(1, at));
                same("seen 0", x.seen(1, at + off, 0), m.seen(1, at + off, 0));
                same("seen 1", x.seen(1, at, 1), m.seen(1, at, 1));
                int list = near(0, 3), i = near(0, 3), what = near(0, 1);
                same("seen", x.seen(list, i, what), m.seen(list, i, what));
                break;
            }
        }
    }

    static int[] whys = new int[6];
    static int liftedRuns = 0;

    /** An object is promised for 512 calls, and a run stays below that. */
    static void oneRun() {
        begin();
        for (int turn = 0; turn < 6; turn++) {
            switch (pick(turn < 2 ? 8 : 7)) {
                case 0: rowsAndBook(); break;
                case 1: imageOrUndo(); break;
                case 2: tapeCall(); break;
                case 3: askSome(); break;
                case 7: planCall(); planAsked(); same("done", x.done(), m.done()); break;
                default: change(); break;
            }
            if (turn % 2 == 0) {
                askAll();
            }
            whys[m.now.why()]++;
            liftedRuns += m.now.pushes() != null && m.now.liftedPad >= 0 ? 1 : 0;
        }
        dearCall();
        askAll();
        askTold();
    }

    public static void main(String[] args) {
        int runs = args.length > 0 ? Integer.parseInt(args[0]) : RUNS;
        int first = args.length > 1 ? Integer.parseInt(args[1]) : 0;
        for (run = first; run < first + runs; run++) {
            seed = 1000003L * run + 17;
            pick(7);
            oneRun();
        }
        System.out.println("whys met " + Arrays.toString(whys) + ", a pad lifted " + liftedRuns);
        System.out.println(wrong == 0 ? "the model agrees" : wrong + " answers differ from the model");
        if (wrong != 0) {
            System.exit(1);
        }
    }
}
