import java.util.ArrayDeque;
import java.util.ArrayList;
import java.util.HashMap;
import java.util.List;
import java.util.Map;
import java.util.function.BiPredicate;
import java.util.regex.Matcher;
import java.util.regex.Pattern;

/**
 * The document once more, told another way: corners instead of spans, all rosters instead of the best ones behind
 * each stage, texts and patterns instead of places. Slow, with the Java library, and only for tests.
 */
final class Model {
    static final int NONE = -1, BAD = -2, NOT = -3, FULL = -4, SPENT = -5, LEAST = Integer.MIN_VALUE;
    private static final int[] QUARTER = {65, 63, 60, 56, 52, 39, 33, 25, 16, 0};

    record House(int[] box, int top, int e, int[] out) { }
    record Wire(int[] box, int height, boolean[] down) { }
    record Slope(int[] box, int rx, int ry, boolean[] wet) { }
    record Storey(int foot, int height, int a, int b) { }
    record At(int x, int y, int h) { }
    record DayCar(int from, int to, int minute, int[] stuck) { }
    record Task(int minutes, int due) { }

    static final class Car {
        int a, b, weight, sway, moves;
        At at;
        List<Storey> storeys = new ArrayList<>();
        int[][] ropes = {{0, 20, 0}, {0, 20, 0}, {0, 20, 0}, {0, 20, 0}};
    }

    List<House> houses = new ArrayList<>();
    List<int[]> kerbs = new ArrayList<>();
    List<Wire> wires = new ArrayList<>();
    List<Slope> slopes = new ArrayList<>();
    List<Car> cars = new ArrayList<>();
    int f = 4, force = 3, roll = 20, grip = 12, run = 2, crews = 1, seen = 0, finding = 0;
    List<Integer> steps = new ArrayList<>();
    List<Integer> teams = new ArrayList<>();
    List<Integer> stages = new ArrayList<>();
    int[] minutes = new int[20];
    boolean[] sides = new boolean[20];
    List<DayCar> day = new ArrayList<>();
    List<Task> tasks = new ArrayList<>();
    StringBuilder text = new StringBuilder();
    Object[] sheets = new Object[4];

    Model() {
        java.util.Arrays.fill(minutes, 10);
    }

    static boolean in(int v, int lo, int hi) {
        return lo <= v && v <= hi;
    }

    static int c(int h) {
        h = ((h % 36) + 36) % 36;
        if (h <= 9) return QUARTER[h];
        if (h <= 18) return -c(18 - h);
        if (h < 27) return -c(h - 18);
        return c(36 - h);
    }

    static int s(int h) {
        return c(h - 9);
    }

    int turn(int h, int what) {
        return !in(h, 0, 35) || !in(what, 0, 1) ? -1000 : what == 0 ? c(h) : s(h);
    }

    static boolean box(int... b) {
        for (int v : b) if (!in(v, -500, 500)) return false;
        return b[0] < b[2] && b[1] < b[3];
    }

    int house(int x0, int y0, int x1, int y1, int top, int e, int out) {
        if (!box(x0, y0, x1, y1) || !in(top, 1, 99) || !in(e, 1, 99) || !in(out, 0, 9)) return BAD;
        if (houses.size() == 20) return FULL;
        houses.add(new House(new int[] {x0, y0, x1, y1}, top, e, new int[] {out}));
        return houses.size() - 1;
    }

    int cut(int house, int out) {
        if (!in(house, 0, houses.size() - 1) || out < 0 || out > houses.get(house).out[0]) return BAD;
        int was = houses.get(house).out[0];
        houses.get(house).out[0] = out;
        return was;
    }

    int kerb(int x0, int y0, int x1, int y1) {
        if (!box(x0, y0, x1, y1)) return BAD;
        if (kerbs.size() == 10) return FULL;
        kerbs.add(new int[] {x0, y0, x1, y1});
        return kerbs.size() - 1;
    }

    int wire(int x0, int y0, int x1, int y1, int height) {
        if (!box(x0, y0, x1, y1) || !in(height, 1, 99)) return BAD;
        if (wires.size() == 10) return FULL;
        wires.add(new Wire(new int[] {x0, y0, x1, y1}, height, new boolean[1]));
        return wires.size() - 1;
    }

    int down(int wire, boolean is) {
        if (!in(wire, 0, wires.size() - 1)) return BAD;
        boolean was = wires.get(wire).down[0];
        wires.get(wire).down[0] = is;
        return was != is ? 1 : 0;
    }

    int slope(int x0, int y0, int x1, int y1, int rx, int ry, boolean wet) {
        if (!box(x0, y0, x1, y1) || !in(rx, -200, 200) || !in(ry, -200, 200)) return BAD;
        if (slopes.size() == 10) return FULL;
        slopes.add(new Slope(new int[] {x0, y0, x1, y1}, rx, ry, new boolean[] {wet}));
        return slopes.size() - 1;
    }

    int rain(boolean wet) {
        int n = 0;
        for (Slope s : slopes) {
            if (s.wet[0] != wet) n++;
            s.wet[0] = wet;
        }
        return n;
    }

    int slopeAt(int x, int y) {
        for (int i = 0; i < slopes.size(); i++) {
            int[] b = slopes.get(i).box;
            if (65 * b[0] <= x && x <= 65 * b[2] && 65 * b[1] <= y && y <= 65 * b[3]) return i;
        }
        return NONE;
    }

    int ground(int x, int y, int what) {
        if (!in(x, -40000, 40000) || !in(y, -40000, 40000) || !in(what, 0, 3)) return -1000;
        int i = slopeAt(x, y);
        if (what == 0) return i;
        if (i == NONE) return 0;
        Slope s = slopes.get(i);
        return what == 1 ? s.rx : what == 2 ? s.ry : s.wet[0] ? 1 : 0;
    }

    int car(int a, int b, int weight, int sway) {
        if (!in(a, 2, 30) || !in(b, 2, 30) || !in(weight, 1, 999) || !in(sway, 0, 20)) return BAD;
        if (cars.size() == 4) return FULL;
        Car c = new Car();
        c.a = a;
        c.b = b;
        c.weight = weight;
        c.sway = sway;
        cars.add(c);
        return cars.size() - 1;
    }

    boolean noCar(int car) {
        return !in(car, 0, cars.size() - 1);
    }

    int storey(int car, int height, int a, int b) {
        if (noCar(car)) return BAD;
        List<Storey> st = cars.get(car).storeys;
        int foot = st.isEmpty() ? 0 : st.get(st.size() - 1).height;
        if (!in(height, 1, 99) || height <= foot || !in(a, 1, 30) || !in(b, 1, 30)) return BAD;
        if (st.size() == 5) return FULL;
        st.add(new Storey(foot, height, a, b));
        return st.size();
    }

    int stand(int car, int x, int y, int h) {
        if (noCar(car) || !in(x, -500, 500) || !in(y, -500, 500) || !in(h, 0, 35)) return BAD;
        At at = new At(65 * x, 65 * y, h);
        if (met(cars.get(car), at) != 0) return NOT;
        cars.get(car).at = at;
        return 1;
    }

    int leave(int car) {
        if (noCar(car)) return BAD;
        boolean stood = cars.get(car).at != null;
        cars.get(car).at = null;
        return stood ? 1 : 0;
    }

    int about(int car, int what) {
        if (noCar(car) || !in(what, 0, 9)) return LEAST;
        Car c = cars.get(car);
        if (what >= 5 && what <= 7 && c.at == null) return LEAST;
        return switch (what) {
            case 0 -> c.a;
            case 1 -> c.b;
            case 2 -> c.weight;
            case 3 -> c.sway;
            case 4 -> c.storeys.size();
            case 5 -> c.at.x;
            case 6 -> c.at.y;
            case 7 -> c.at.h;
            case 8 -> c.moves;
            default -> c.at == null ? 0 : 1;
        };
    }

    /** The place a along, b across. */
    static long[] place(At at, long a, long b) {
        return new long[] {at.x + a * c(at.h) - b * s(at.h), at.y + a * s(at.h) + b * c(at.h)};
    }

    static long[] wheelAt(Car c, At at, int w) {
        int[] along = {1, 1, -1, -1};
        int[] across = {1, -1, 1, -1};
        return place(at, along[w] * c.a, across[w] * c.b);
    }

    int wheel(int car, int w, int what) {
        if (noCar(car) || !in(w, 0, 3) || !in(what, 0, 1) || cars.get(car).at == null) return LEAST;
        return (int) wheelAt(cars.get(car), cars.get(car).at, w)[what];
    }

    int feet(int n) {
        if (!in(n, 1, 20)) return BAD;
        int was = f;
        f = n;
        return was;
    }

    /** Corners in turn, so that the inside lies to the left of each edge. */
    static long[][] corners(Car c, Storey st, At at) {
        int more = (int) Math.floor(c.sway * st.height / 100.0);
        int a = st.a + more;
        int b = st.b + more;
        return new long[][] {place(at, a, b), place(at, -a, b), place(at, -a, -b), place(at, a, -b)};
    }

    static long[][] corners(int[] box, int out) {
        long x0 = 65L * (box[0] - out), y0 = 65L * (box[1] - out), x1 = 65L * (box[2] + out), y1 = 65L * (box[3] + out);
        return new long[][] {{x1, y1}, {x0, y1}, {x0, y0}, {x1, y0}};
    }

    /** Whether an edge of p has all of q on its outside or on itself. */
    static boolean parted(long[][] p, long[][] q) {
        for (int i = 0; i < 4; i++) {
            long[] a = p[i];
            long[] b = p[(i + 1) % 4];
            boolean all = true;
            for (long[] v : q) {
                if ((b[0] - a[0]) * (v[1] - a[1]) - (b[1] - a[1]) * (v[0] - a[0]) > 0) all = false;
            }
            if (all) return true;
        }
        return false;
    }

    static boolean touch(long[][] p, long[][] q) {
        return !parted(p, q) && !parted(q, p);
    }

    int met(Car c, At at) {
        for (int i = 0; i < houses.size(); i++) {
            for (Storey st : c.storeys) {
                if (houses.get(i).top > st.foot && touch(corners(c, st, at), corners(houses.get(i).box, 0))) return 1000 + i;
            }
        }
        for (int i = 0; i < houses.size(); i++) {
            House h = houses.get(i);
            for (Storey st : c.storeys) {
                if (h.e < st.height && st.foot < h.top + 5 && touch(corners(c, st, at), corners(h.box, h.out[0]))) {
                    return 2000 + i;
                }
            }
        }
        for (int i = 0; i < wires.size(); i++) {
            Wire w = wires.get(i);
            for (Storey st : c.storeys) {
                if (!w.down[0] && w.height > st.foot && !(w.height > st.height)
                        && touch(corners(c, st, at), corners(w.box, 0))) {
                    return 3000 + i;
                }
            }
        }
        for (int i = 0; i < kerbs.size(); i++) {
            int[] k = kerbs.get(i);
            for (int w = 0; w < 4; w++) {
                long[] p = wheelAt(c, at, w);
                if (p[0] > 65 * k[0] && p[0] < 65 * k[2] && p[1] > 65 * k[1] && p[1] < 65 * k[3]) return 4000 + i;
            }
        }
        for (int i = 0; i < cars.size(); i++) {
            Car o = cars.get(i);
            if (o == c || o.at == null) continue;
            for (Storey st : c.storeys) {
                for (Storey ot : o.storeys) {
                    boolean height = Math.max(st.foot, ot.foot) < Math.min(st.height, ot.height);
                    if (height && touch(corners(c, st, at), corners(o, ot, o.at))) return 5000 + i;
                }
            }
        }
        return Math.abs(at.x) > 40000 || Math.abs(at.y) > 40000 ? 6000 : 0;
    }

    At moved(Car c, At at, int move) {
        if (move < 2) {
            int n = move == 0 ? f : -f;
            return new At(at.x + n * c(at.h), at.y + n * s(at.h), at.h);
        }
        int w = move < 6 ? move - 2 : move - 6;
        int h = Math.floorMod(at.h + (move < 6 ? 1 : -1), 36);
        long[] stays = wheelAt(c, at, w);
        long[] off = wheelAt(c, new At(0, 0, h), w);
        return new At((int) (stays[0] - off[0]), (int) (stays[1] - off[1]), h);
    }

    int meets(int car, int move) {
        if (noCar(car) || !in(move, 0, 10)) return BAD;
        Car c = cars.get(car);
        if (c.at == null) return NOT;
        return met(c, move == 10 ? c.at : moved(c, c.at, move));
    }

    int move(int car, int move) {
        if (noCar(car) || !in(move, 0, 9)) return BAD;
        return doMove(cars.get(car), move) ? 1 : NOT;
    }

    boolean doMove(Car c, int move) {
        if (c.at == null) return false;
        At to = moved(c, c.at, move);
        if (met(c, to) != 0) return false;
        c.at = to;
        c.moves++;
        return true;
    }

    int way(int car, int x0, int y0, int x1, int y1, int h) {
        if (noCar(car) || !box(x0, y0, x1, y1) || !in(h, 0, 35)) return BAD;
        Car c = cars.get(car);
        if (c.at == null) return NOT;
        BiPredicate<Car, At> goal = (who, at) -> {
            if (at.h != h) return false;
            for (int w = 0; w < 4; w++) {
                long[] p = wheelAt(who, at, w);
                if (p[0] < 65 * x0 || p[0] > 65 * x1 || p[1] < 65 * y0 || p[1] > 65 * y1) return false;
            }
            return true;
        };
        Map<At, List<Integer>> ways = new HashMap<>();
        ArrayDeque<At> todo = new ArrayDeque<>();
        ways.put(c.at, List.of());
        todo.add(c.at);
        seen = 1;
        if (goal.test(c, c.at)) {
            steps = List.of();
            return 0;
        }
        while (!todo.isEmpty()) {
            At from = todo.poll();
            List<Integer> way = ways.get(from);
            if (way.size() == 12) continue;
            for (int m = 0; m < 10; m++) {
                At to = moved(c, from, m);
                if (ways.containsKey(to) || met(c, to) != 0) continue;
                if (seen == 1500) return SPENT;
                seen++;
                List<Integer> longer = new ArrayList<>(way);
                longer.add(m);
                ways.put(to, longer);
                todo.add(to);
                if (goal.test(c, to)) {
                    steps = longer;
                    return longer.size();
                }
            }
        }
        return NOT;
    }

    int step(int i) {
        return in(i, 0, steps.size() - 1) ? steps.get(i) : BAD;
    }

    int seen() {
        return seen;
    }

    int rope(int car, int rope, int hands, int length, int bend) {
        if (noCar(car) || !in(rope, 0, 3) || !in(hands, 0, 300) || !in(length, 1, 60) || !in(bend, -9, 9)) return BAD;
        cars.get(car).ropes[rope] = new int[] {hands, length, bend};
        return 1;
    }

    int set(int what, int v) {
        int was;
        if (what == 0 && in(v, 1, 9)) {
            was = force;
            force = v;
        } else if (what == 1 && in(v, 0, 100)) {
            was = roll;
            roll = v;
        } else if (what == 2 && in(v, 1, 99)) {
            was = grip;
            grip = v;
        } else {
            return BAD;
        }
        return was;
    }

    /** The open span of t in which lo is below p + t d and that below hi, as {n0, n1, of}; null if there is none. */
    static long[] span(long p, long d, long lo, long hi) {
        if (d == 0) return p > lo && p < hi ? new long[] {-1, 2, 1} : null;
        return d > 0 ? new long[] {lo - p, hi - p, d} : new long[] {p - hi, p - lo, -d};
    }

    int bites(Car c, int r) {
        long[] p = wheelAt(c, c.at, r);
        int h = c.at.h + c.ropes[r][2] + (r >= 2 ? 18 : 0);
        long dx = (long) c.ropes[r][1] * c(h);
        long dy = (long) c.ropes[r][1] * s(h);
        for (int i = 0; i < houses.size(); i++) {
            int[] b = houses.get(i).box;
            long[] sx = span(p[0], dx, 65 * b[0], 65 * b[2]);
            long[] sy = span(p[1], dy, 65 * b[1], 65 * b[3]);
            if (sx == null || sy == null) continue;
            boolean cross = sx[0] * sy[2] < sy[1] * sx[2] && sy[0] * sx[2] < sx[1] * sy[2];
            boolean on = sx[0] < sx[2] && sx[1] > 0 && sy[0] < sy[2] && sy[1] > 0;
            if (cross && on) return i;
        }
        return NONE;
    }

    int tight(int car, int rope) {
        if (noCar(car) || !in(rope, 0, 3)) return BAD;
        Car c = cars.get(car);
        if (c.at == null) return NOT;
        int h = bites(c, rope);
        return h != NONE ? 100 + h : c.ropes[rope][0] < 10 ? 1 : 0;
    }

    boolean wet(Car c) {
        return ground(c.at.x, c.at.y, 3) == 1;
    }

    int pull(int car) {
        if (noCar(car) || cars.get(car).at == null) return LEAST;
        Car c = cars.get(car);
        int all = 0;
        for (int r = 0; r < 4; r++) {
            if (tight(car, r) != 0) continue;
            int one = (r < 2 ? 1 : -1) * (c.ropes[r][0] * force * c(c.ropes[r][2]) / 65);
            all += wet(c) ? Integer.signum(one) * (Math.abs(one) * 3 / 4) : one;
        }
        return all;
    }

    int need(int car) {
        if (noCar(car) || cars.get(car).at == null) return LEAST;
        Car c = cars.get(car);
        int rise = ground(c.at.x, c.at.y, 1) * c(c.at.h) + ground(c.at.x, c.at.y, 2) * s(c.at.h);
        return (int) Math.ceil(c.weight * (roll + (int) Math.floor(rise / 65.0)) / 10.0);
    }

    int may(int car) {
        if (noCar(car)) return BAD;
        if (cars.get(car).at == null) return NOT;
        return pull(car) >= need(car) && pull(car) > 0 ? 1 : 0;
    }

    int woods(int car) {
        if (noCar(car)) return BAD;
        if (cars.get(car).at == null) return NOT;
        for (int n = 0; n <= 20; n++) {
            int holds = wet(cars.get(car)) ? n * grip / 2 : n * grip;
            if (pull(car) < 0) holds -= pull(car);
            if (holds >= -need(car)) return n;
        }
        return NONE;
    }

    int team(int hands) {
        if (!in(hands, 1, 300)) return BAD;
        if (teams.size() == 4) return FULL;
        teams.add(hands);
        return teams.size() - 1;
    }

    int stage(int need) {
        if (!in(need, 0, 2000)) return BAD;
        if (stages.size() == 6) return FULL;
        stages.add(need);
        return stages.size() - 1;
    }

    int run(int r) {
        if (!in(r, 1, 3)) return BAD;
        int was = run;
        run = r;
        return was;
    }

    private int[] best;
    private int bestCount;

    /** Tries all rosters in order; the first of the fewest stays. */
    int[] bestRoster() {
        best = null;
        bestCount = 1000;
        tryStage(0, new int[stages.size()], 0);
        return best;
    }

    private void tryStage(int stage, int[] bits, int count) {
        if (count >= bestCount) return;
        if (stage == bits.length) {
            best = bits.clone();
            bestCount = count;
            return;
        }
        for (int b = 0; b < 1 << teams.size(); b++) {
            int hands = 0;
            boolean rested = true;
            bits[stage] = b;
            for (int t = 0; t < teams.size(); t++) {
                if ((b >> t) % 2 == 0) continue;
                hands += teams.get(t);
                int row = 0;
                while (row <= stage && (bits[stage - row] >> t) % 2 == 1) row++;
                rested &= row <= run;
            }
            if (rested && hands >= stages.get(stage)) tryStage(stage + 1, bits, count + Integer.bitCount(b));
        }
    }

    int roster() {
        return bestRoster() == null ? NOT : bestCount;
    }

    int pulls(int stage) {
        if (!in(stage, 0, stages.size() - 1)) return BAD;
        return bestRoster() == null ? NOT : best[stage];
    }

    int block(int b, int m, boolean side) {
        if (!in(b, 0, 19) || !in(m, 1, 60)) return BAD;
        minutes[b] = m;
        sides[b] = side;
        return 1;
    }

    int enter(int from, int to, int minute) {
        if (!in(from, 0, 19) || !in(to, 0, 19) || from == to || !in(minute, 0, 999)) return BAD;
        if (day.size() == 4) return FULL;
        day.add(new DayCar(from, to, minute, new int[] {3000, 3000}));
        return day.size() - 1;
    }

    int stuck(int car, int from, int to) {
        if (!in(car, 0, day.size() - 1) || !in(from, 0, 2000) || !in(to, 0, 2000) || to <= from) return BAD;
        day.get(car).stuck[0] = from;
        day.get(car).stuck[1] = to;
        return 1;
    }

    int home() {
        int n = day.size();
        day.clear();
        return n;
    }

    /** Where each car is behind each minute. */
    int[][] dayTable() {
        int n = day.size();
        int[][] table = new int[2001][n];
        int[] at = new int[n];
        int[] since = new int[n];
        java.util.Arrays.fill(at, 100);
        for (int m = 0; m <= 2000; m++) {
            for (int c = 0; c < n; c++) {
                DayCar d = day.get(c);
                if (at[c] == 101 || (m >= d.stuck[0] && m < d.stuck[1])) continue;
                int to;
                if (at[c] == 100) {
                    if (m < d.minute) continue;
                    to = d.from;
                } else {
                    if (m - since[c] < minutes[at[c]]) continue;
                    to = at[c] == d.to ? 101 : at[c] + Integer.signum(d.to - at[c]);
                }
                int there = 0;
                for (int o = 0; o < n; o++) if (at[o] == to) there++;
                if (to != 101 && there >= (sides[to] ? 2 : 1)) continue;
                at[c] = to;
                since[c] = m;
            }
            table[m] = at.clone();
        }
        return table;
    }

    int gone(int car) {
        if (!in(car, 0, day.size() - 1)) return BAD;
        int[][] table = dayTable();
        for (int m = 0; m <= 2000; m++) if (table[m][car] == 101) return m;
        return NONE;
    }

    int where(int car, int minute) {
        if (!in(car, 0, day.size() - 1) || !in(minute, 0, 2000)) return BAD;
        return dayTable()[minute][car];
    }

    int task(int m, int due) {
        if (!in(m, 1, 200) || !in(due, 0, 2000)) return BAD;
        if (tasks.size() == 12) return FULL;
        tasks.add(new Task(m, due));
        return tasks.size() - 1;
    }

    int crews(int n) {
        if (!in(n, 1, 4)) return BAD;
        int was = crews;
        crews = n;
        return was;
    }

    int[] lates() {
        List<Integer> order = new ArrayList<>();
        for (int i = 0; i < tasks.size(); i++) order.add(i);
        order.sort((p, q) -> tasks.get(p).due - tasks.get(q).due);
        java.util.PriorityQueue<Integer> free = new java.util.PriorityQueue<>();
        for (int i = 0; i < crews; i++) free.add(0);
        int[] late = new int[tasks.size()];
        for (int i : order) {
            int end = free.poll() + tasks.get(i).minutes;
            free.add(end);
            late[i] = end - tasks.get(i).due;
        }
        return late;
    }

    int late(int task) {
        return in(task, 0, tasks.size() - 1) ? lates()[task] : -10000;
    }

    int latest(int what) {
        int most = 0;
        int n = 0;
        for (int l : lates()) {
            most = Math.max(most, l);
            if (l > 0) n++;
        }
        return what == 0 ? most : what == 1 ? n : BAD;
    }

    int type(int b) {
        if (!in(b, 0, 255)) return BAD;
        if (text.length() == 80) return FULL;
        text.append((char) b);
        return text.length();
    }

    int tear() {
        int n = text.length();
        text.setLength(0);
        return n;
    }

    private static final Pattern PART = Pattern.compile("([dblrwf])([0-9]{1,2})");

    int fault() {
        String t = text.toString();
        int at = 0;
        while (true) {
            Matcher m = PART.matcher(t).region(at, t.length());
            if (!m.lookingAt()) return at < t.length() && "dblrwf".indexOf(t.charAt(at)) >= 0 ? at + 1 : at;
            int n = Integer.parseInt(m.group(2));
            boolean may = switch (m.group(1)) {
                case "d", "b" -> n >= 1 && n <= 40;
                case "f" -> n >= 1 && n <= 20;
                case "w" -> n <= 9;
                default -> n <= 3;
            };
            if (!may) return at + 1;
            at = m.end();
            if (at == t.length()) return NONE;
            if (t.charAt(at) != ';') return at;
            at++;
        }
    }

    int perform(int car) {
        if (noCar(car)) return BAD;
        if (cars.get(car).at == null || fault() != NONE) return NOT;
        int done = 0;
        for (String part : text.toString().split(";")) {
            int n = Integer.parseInt(part.substring(1));
            char l = part.charAt(0);
            if (l == 'f') f = n;
            if (l == 'w') {
                if (n >= wires.size()) return done;
                wires.get(n).down[0] = true;
            }
            int times = l == 'd' || l == 'b' ? n : l == 'l' || l == 'r' ? 1 : 0;
            int move = l == 'd' ? 0 : l == 'b' ? 1 : l == 'l' ? 2 + n : 6 + n;
            for (int i = 0; i < times; i++) {
                if (!doMove(cars.get(car), move)) return done;
                done++;
            }
        }
        return done;
    }

    int found(int n) {
        finding = n;
        return -10 - n;
    }

    static int form(Object row) {
        return row instanceof byte[] ? 0 : row instanceof short[] ? 1 : 2;
    }

    static int size(Object row) {
        return java.lang.reflect.Array.getLength(row);
    }

    int sheet(int s, int form, int n) {
        if (!in(s, 0, 3) || !in(form, 0, 2) || n > 60) return BAD;
        if (n < 0) return found(5);
        sheets[s] = form == 0 ? new byte[n] : form == 1 ? new short[n] : new int[n];
        return n;
    }

    int lose(int s) {
        if (!in(s, 0, 3)) return BAD;
        if (sheets[s] == null) return found(1);
        int n = size(sheets[s]);
        sheets[s] = null;
        return n;
    }

    int put(int s, int form, int i, int v) {
        if (!in(s, 0, 3) || !in(form, 0, 2)) return BAD;
        if (sheets[s] == null) return found(1);
        if (form(sheets[s]) != form) return found(3);
        if (!in(i, 0, size(sheets[s]) - 1)) return found(2);
        if (form == 0) ((byte[]) sheets[s])[i] = (byte) v;
        if (form == 1) ((short[]) sheets[s])[i] = (short) v;
        if (form == 2) ((int[]) sheets[s])[i] = v;
        return 1;
    }

    int item(int s, int i) {
        return ((Number) java.lang.reflect.Array.get(sheets[s], i)).intValue();
    }

    int get(int s, int form, int i) {
        if (!in(s, 0, 3) || !in(form, 0, 2)) return LEAST;
        if (sheets[s] == null) found(1);
        else if (form(sheets[s]) != form) found(3);
        else if (!in(i, 0, size(sheets[s]) - 1)) found(2);
        else return item(s, i);
        return LEAST;
    }

    int copy(int s, int i, int t, int j, int n) {
        if (!in(s, 0, 3) || !in(t, 0, 3)) return BAD;
        if (sheets[s] == null || sheets[t] == null) return found(1);
        if (form(sheets[s]) != form(sheets[t])) return found(4);
        try {
            System.arraycopy(sheets[s], i, sheets[t], j, n);
        } catch (IndexOutOfBoundsException e) {
            return found(2);
        }
        return 1;
    }

    int measure(int s) {
        if (!in(s, 0, 3)) return BAD;
        if (sheets[s] == null) return found(1);
        int n = 0;
        while (7 * n + 7 <= size(sheets[s])) {
            int[] v = new int[7];
            for (int k = 0; k < 7; k++) v[k] = item(s, 7 * n + k);
            if (house(v[0], v[1], v[2], v[3], v[4], v[5], v[6]) < 0) break;
            n++;
        }
        return n;
    }

    int count(int what) {
        return switch (what) {
            case 0 -> houses.size();
            case 1 -> kerbs.size();
            case 2 -> (int) wires.stream().filter(w -> !w.down[0]).count();
            case 3 -> slopes.size();
            case 4 -> cars.size();
            case 5 -> (int) cars.stream().filter(c -> c.at != null).count();
            case 6 -> day.size();
            case 7 -> tasks.size();
            case 8 -> text.length();
            case 9 -> finding;
            case 10 -> teams.size();
            case 11 -> stages.size();
            case 12 -> f;
            default -> BAD;
        };
    }

    long digest() {
        List<Integer> all = new ArrayList<>();
        for (int w : new int[] {0, 1, 2, 3, 4, 5, 6, 7, 8, 10, 11, 12}) all.add(count(w));
        for (int c = 0; c < cars.size(); c++) for (int w = 0; w <= 9; w++) all.add(about(c, w));
        for (int c = 0; c < cars.size(); c++) {
            if (cars.get(c).at != null) {
                all.add(pull(c));
                all.add(need(c));
            }
        }
        for (int c = 0; c < day.size(); c++) all.add(gone(c));
        for (int t = 0; t < tasks.size(); t++) all.add(late(t));
        all.add(roster());
        long h = 17;
        for (int v : all) h = 31 * h + v;
        return h;
    }
}
