import java.util.Arrays;

/** Towers on wheels, as ../shared/DOC.md tells them: streets, cars, ropes, the day, orders, sheets. */
public final class FloatTowers {
    public static final int NONE = -1, BAD = -2, NOT = -3, FULL = -4, SPENT = -5;

    private static final int LEAST = -2147483648;
    private static final int FOOT = 65;
    private static final int FAR = 40000;
    private static final int HEADINGS = 36;
    private static final int WHEELS = 4;
    private static final int MOVES = 10;

    private static final int NULL_FOUND = 1, INDEX_FOUND = 2, CAST_FOUND = 3, STORE_FOUND = 4, SIZE_FOUND = 5;

    private static final int[] COSINES = {
        65, 63, 60, 56, 52, 39, 33, 25, 16,
        0, -16, -25, -33, -39, -52, -56, -60, -63,
        -65, -63, -60, -56, -52, -39, -33, -25, -16,
        0, 16, 25, 33, 39, 52, 56, 60, 63
    };

    private final Streets streets;
    private final Fleet fleet;
    private final WaySearch search;
    private final Shifts shifts;
    private final Day day;
    private final Tasks tasks;
    private final Orders orders;
    private final Sheets sheets;

    public FloatTowers() {
        streets = new Streets();
        fleet = new Fleet(streets);
        search = new WaySearch(fleet);
        shifts = new Shifts();
        day = new Day();
        tasks = new Tasks();
        orders = new Orders(streets, fleet);
        sheets = new Sheets();
    }

    // ---- streets

    public int turn(int h, int what) {
        if (!within(h, 0, HEADINGS - 1) || !within(what, 0, 1)) {
            return -1000;
        }
        return what == 0 ? cosine(h) : sine(h);
    }

    public int house(int x0, int y0, int x1, int y1, int top, int e, int out) {
        return streets.addHouse(x0, y0, x1, y1, top, e, out);
    }

    public int cut(int house, int out) {
        return streets.cutEaves(house, out);
    }

    public int kerb(int x0, int y0, int x1, int y1) {
        return streets.addKerb(x0, y0, x1, y1);
    }

    public int wire(int x0, int y0, int x1, int y1, int height) {
        return streets.addWire(x0, y0, x1, y1, height);
    }

    public int down(int wire, boolean is) {
        return streets.lower(wire, is);
    }

    public int slope(int x0, int y0, int x1, int y1, int riseX, int riseY, boolean wet) {
        return streets.addSlope(x0, y0, x1, y1, riseX, riseY, wet);
    }

    public int rain(boolean wet) {
        return streets.wetAll(wet);
    }

    public int ground(int x, int y, int what) {
        if (!within(x, -FAR, FAR) || !within(y, -FAR, FAR) || !within(what, 0, 3)) {
            return -1000;
        }
        int slope = streets.slopeAt(x, y);
        switch (what) {
            case 0: return slope;
            case 1: return streets.riseXOf(slope);
            case 2: return streets.riseYOf(slope);
            default: return streets.isWet(slope) ? 1 : 0;
        }
    }

    // ---- cars

    public int car(int longs, int broad, int weight, int sway) {
        return fleet.addCar(longs, broad, weight, sway);
    }

    public int storey(int car, int height, int halfLong, int halfBroad) {
        Car it = fleet.carAt(car);
        if (it == null) {
            return BAD;
        }
        return it.addStorey(height, halfLong, halfBroad);
    }

    public int stand(int car, int x, int y, int h) {
        Car it = fleet.carAt(car);
        if (it == null || !within(x, -500, 500) || !within(y, -500, 500) || !within(h, 0, HEADINGS - 1)) {
            return BAD;
        }
        if (fleet.firstMet(it, FOOT * x, FOOT * y, h) != 0) {
            return NOT;
        }
        it.standAt(FOOT * x, FOOT * y, h);
        return 1;
    }

    public int leave(int car) {
        Car it = fleet.carAt(car);
        if (it == null) {
            return BAD;
        }
        boolean stood = it.stands;
        it.stands = false;
        return stood ? 1 : 0;
    }

    public int about(int car, int what) {
        Car it = fleet.carAt(car);
        if (it == null) {
            return LEAST;
        }
        return it.tell(what);
    }

    public int wheel(int car, int w, int what) {
        Car it = fleet.carAt(car);
        if (it == null || !it.stands || !within(w, 0, WHEELS - 1) || !within(what, 0, 1)) {
            return LEAST;
        }
        return what == 0 ? it.x + it.wheelX(w, it.h) : it.y + it.wheelY(w, it.h);
    }

    public int feet(int f) {
        if (!within(f, 1, 20)) {
            return BAD;
        }
        int was = fleet.feetDrawn;
        fleet.feetDrawn = f;
        return was;
    }

    public int meets(int car, int move) {
        Car it = fleet.carAt(car);
        if (it == null || !within(move, 0, MOVES)) {
            return BAD;
        }
        if (!it.stands) {
            return NOT;
        }
        if (move == MOVES) {
            return fleet.firstMet(it, it.x, it.y, it.h);
        }
        fleet.aim(it, it.x, it.y, it.h, move);
        return fleet.firstMet(it, fleet.aimX, fleet.aimY, fleet.aimH);
    }

    public int move(int car, int move) {
        Car it = fleet.carAt(car);
        if (it == null || !within(move, 0, MOVES - 1)) {
            return BAD;
        }
        return fleet.drive(it, move) ? 1 : NOT;
    }

    public int way(int car, int x0, int y0, int x1, int y1, int h) {
        Car it = fleet.carAt(car);
        if (it == null || !isBox(x0, y0, x1, y1) || !within(h, 0, HEADINGS - 1)) {
            return BAD;
        }
        if (!it.stands) {
            return NOT;
        }
        return search.find(it, new Box(x0, y0, x1, y1), h);
    }

    public int step(int i) {
        return search.stepAt(i);
    }

    public int seen() {
        return search.counted;
    }

    // ---- ropes, pull

    public int rope(int car, int rope, int hands, int length, int bend) {
        Car it = fleet.carAt(car);
        if (it == null || !within(rope, 0, WHEELS - 1)) {
            return BAD;
        }
        if (!within(hands, 0, 300) || !within(length, 1, 60) || !within(bend, -9, 9)) {
            return BAD;
        }
        it.ropeHands[rope] = hands;
        it.ropeLength[rope] = length;
        it.ropeBend[rope] = bend;
        return 1;
    }

    public int set(int what, int v) {
        return fleet.tellNumber(what, v);
    }

    public int tight(int car, int rope) {
        Car it = fleet.carAt(car);
        if (it == null || !within(rope, 0, WHEELS - 1)) {
            return BAD;
        }
        if (!it.stands) {
            return NOT;
        }
        int house = fleet.houseBitten(it, rope);
        if (house != NONE) {
            return 100 + house;
        }
        return it.isSlack(rope) ? 1 : 0;
    }

    public int pull(int car) {
        Car it = fleet.carAt(car);
        if (it == null || !it.stands) {
            return LEAST;
        }
        return fleet.pullOf(it);
    }

    public int need(int car) {
        Car it = fleet.carAt(car);
        if (it == null || !it.stands) {
            return LEAST;
        }
        return fleet.needOf(it);
    }

    public int may(int car) {
        Car it = fleet.carAt(car);
        if (it == null) {
            return BAD;
        }
        if (!it.stands) {
            return NOT;
        }
        int force = fleet.pullOf(it);
        return force > 0 && force >= fleet.needOf(it) ? 1 : 0;
    }

    public int woods(int car) {
        Car it = fleet.carAt(car);
        if (it == null) {
            return BAD;
        }
        if (!it.stands) {
            return NOT;
        }
        return fleet.fewestWoods(it);
    }

    // ---- teams, the day, tasks

    public int team(int hands) {
        return shifts.addTeam(hands);
    }

    public int stage(int need) {
        return shifts.addStage(need);
    }

    public int run(int r) {
        return shifts.tellRun(r);
    }

    public int roster() {
        return shifts.fewest();
    }

    public int pulls(int stage) {
        return shifts.teamsOf(stage);
    }

    public int block(int b, int minutes, boolean side) {
        return day.tellBlock(b, minutes, side);
    }

    public int enter(int from, int to, int minute) {
        return day.addCar(from, to, minute);
    }

    public int stuck(int car, int from, int to) {
        return day.stick(car, from, to);
    }

    public int home() {
        return day.clearCars();
    }

    public int gone(int car) {
        return day.goneOf(car);
    }

    public int where(int car, int minute) {
        return day.placeOf(car, minute);
    }

    public int task(int minutes, int due) {
        return tasks.addTask(minutes, due);
    }

    public int crews(int n) {
        return tasks.tellCrews(n);
    }

    public int late(int task) {
        return tasks.lateOf(task);
    }

    public int latest(int what) {
        if (!within(what, 0, 1)) {
            return BAD;
        }
        return what == 0 ? tasks.greatestLate() : tasks.howManyLate();
    }

    // ---- orders

    public int type(int b) {
        return orders.append(b);
    }

    public int tear() {
        return orders.clear();
    }

    public int fault() {
        return orders.faultPlace();
    }

    public int perform(int car) {
        Car it = fleet.carAt(car);
        if (it == null) {
            return BAD;
        }
        if (!it.stands || orders.faultPlace() != NONE) {
            return NOT;
        }
        return orders.carryOut(it);
    }

    // ---- sheets

    public int sheet(int s, int form, int n) {
        return sheets.renew(s, form, n);
    }

    public int lose(int s) {
        return sheets.drop(s);
    }

    public int put(int s, int form, int i, int v) {
        return sheets.write(s, form, i, v);
    }

    public int get(int s, int form, int i) {
        return sheets.read(s, form, i);
    }

    public int copy(int s, int i, int t, int j, int n) {
        return sheets.carryOver(s, i, t, j, n);
    }

    public int measure(int s) {
        int refusal = sheets.refusalOf(s);
        if (refusal != 0) {
            return refusal;
        }
        return sheets.buildHouses(s, streets);
    }

    public int count(int what) {
        switch (what) {
            case 0: return streets.houseCount;
            case 1: return streets.kerbCount;
            case 2: return streets.wiresThatHang();
            case 3: return streets.slopeCount;
            case 4: return fleet.carCount;
            case 5: return fleet.carsThatStand();
            case 6: return day.carCount;
            case 7: return tasks.taskCount;
            case 8: return orders.length;
            case 9: return sheets.finding;
            case 10: return shifts.teamCount;
            case 11: return shifts.stageCount;
            case 12: return fleet.feetDrawn;
            default: return BAD;
        }
    }

    public long digest() {
        long h = 17;
        for (int what = 0; what <= 12; what++) {
            if (what != 9) {
                h = 31 * h + count(what);
            }
        }
        h = digestCars(h);
        for (int car = 0; car < day.carCount; car++) {
            h = 31 * h + day.goneOf(car);
        }
        for (int task = 0; task < tasks.taskCount; task++) {
            h = 31 * h + tasks.lateOf(task);
        }
        return 31 * h + shifts.fewest();
    }

    /** What is told about all cars goes ahead of what pulls any of them. */
    private long digestCars(long before) {
        long h = before;
        for (int car = 0; car < fleet.carCount; car++) {
            for (int what = 0; what <= 9; what++) {
                h = 31 * h + about(car, what);
            }
        }
        for (int car = 0; car < fleet.carCount; car++) {
            Car it = fleet.carAt(car);
            if (it != null && it.stands) {
                h = 31 * h + fleet.pullOf(it);
                h = 31 * h + fleet.needOf(it);
            }
        }
        return h;
    }

    private static boolean within(int v, int least, int most) {
        return v >= least && v <= most;
    }

    private static boolean isBox(int x0, int y0, int x1, int y1) {
        return within(x0, -500, 500) && within(y0, -500, 500) && within(x1, -500, 500) && within(y1, -500, 500)
            && x0 < x1 && y0 < y1;
    }

    private static int cosine(int h) {
        return COSINES[Math.floorMod(h, HEADINGS)];
    }

    private static int sine(int h) {
        return COSINES[Math.floorMod(h - 9, HEADINGS)];
    }

    /** A box of the document, in feet. */
    private static final class Box {
        final int x0, y0, x1, y1;

        Box(int x0, int y0, int x1, int y1) {
            this.x0 = x0;
            this.y0 = y0;
            this.x1 = x1;
            this.y1 = y1;
        }

        boolean holds(int x, int y) {
            return within(x, FOOT * x0, FOOT * x1) && within(y, FOOT * y0, FOOT * y1);
        }

        boolean holdsInside(int x, int y) {
            return x > FOOT * x0 && x < FOOT * x1 && y > FOOT * y0 && y < FOOT * y1;
        }
    }

    /**
     * A rectangle that is turned. Its middle is kept doubled, and its sides whole instead of halved,
     * because boxes and ropes may have their middles between two 65ths.
     */
    private static final class Rect {
        private static final int SQUARE = FOOT * FOOT;

        private int x2, y2, c, s;
        private int longs, broad;
        private int spanX, spanY;

        void lay(int x2, int y2, int c, int s, int longs, int broad) {
            this.x2 = x2;
            this.y2 = y2;
            this.c = c;
            this.s = s;
            this.longs = longs;
            this.broad = broad;
            spanX = longs * Math.abs(c) + broad * Math.abs(s);
            spanY = longs * Math.abs(s) + broad * Math.abs(c);
        }

        boolean touchesBox(Box box, int out) {
            int wide = FOOT * (box.x1 - box.x0 + 2 * out);
            int deep = FOOT * (box.y1 - box.y0 + 2 * out);
            int dx = x2 - FOOT * (box.x0 + box.x1);
            int dy = y2 - FOOT * (box.y0 + box.y1);
            if (Math.abs(dx) >= spanX + wide || Math.abs(dy) >= spanY + deep) {
                return false;
            }
            int ac = Math.abs(c);
            int as = Math.abs(s);
            return Math.abs(dx * c + dy * s) < longs * SQUARE + wide * ac + deep * as
                && Math.abs(dy * c - dx * s) < broad * SQUARE + wide * as + deep * ac;
        }

        /** Apart on one of the two ways of this rectangle; the other's two ways are its own to ask. */
        boolean liesApartFrom(Rect other) {
            int dx = other.x2 - x2;
            int dy = other.y2 - y2;
            int along = Math.abs(c * other.c + s * other.s);
            int across = Math.abs(c * other.s - s * other.c);
            return Math.abs(dx * c + dy * s) >= longs * SQUARE + other.longs * along + other.broad * across
                || Math.abs(dy * c - dx * s) >= broad * SQUARE + other.longs * across + other.broad * along;
        }
    }

    /** What stands in the streets: houses, kerbs, wires, slopes. */
    private static final class Streets {
        private static final int MOST_HOUSES = 20, MOST_OTHERS = 10;

        private final Box[] houses = new Box[MOST_HOUSES];
        private final int[] tops = new int[MOST_HOUSES];
        private final int[] eaves = new int[MOST_HOUSES];
        private final int[] outs = new int[MOST_HOUSES];
        int houseCount;
        private final Box[] kerbs = new Box[MOST_OTHERS];
        int kerbCount;
        private final Box[] wires = new Box[MOST_OTHERS];
        private final int[] wireHeights = new int[MOST_OTHERS];
        private final boolean[] wireDown = new boolean[MOST_OTHERS];
        private int wireCount;
        private final Box[] slopes = new Box[MOST_OTHERS];
        private final int[] risesX = new int[MOST_OTHERS];
        private final int[] risesY = new int[MOST_OTHERS];
        private final boolean[] wets = new boolean[MOST_OTHERS];
        int slopeCount;

        int addHouse(int x0, int y0, int x1, int y1, int top, int e, int out) {
            if (!isBox(x0, y0, x1, y1) || !within(top, 1, 99) || !within(e, 1, 99) || !within(out, 0, 9)) {
                return BAD;
            }
            if (houseCount >= MOST_HOUSES) {
                return FULL;
            }
            houses[houseCount] = new Box(x0, y0, x1, y1);
            tops[houseCount] = top;
            eaves[houseCount] = e;
            outs[houseCount] = out;
            return houseCount++;
        }

        int cutEaves(int house, int out) {
            if (!within(house, 0, houseCount - 1) || !within(out, 0, outs[house])) {
                return BAD;
            }
            int was = outs[house];
            outs[house] = out;
            return was;
        }

        int addKerb(int x0, int y0, int x1, int y1) {
            if (!isBox(x0, y0, x1, y1)) {
                return BAD;
            }
            if (kerbCount >= MOST_OTHERS) {
                return FULL;
            }
            kerbs[kerbCount] = new Box(x0, y0, x1, y1);
            return kerbCount++;
        }

        int addWire(int x0, int y0, int x1, int y1, int height) {
            if (!isBox(x0, y0, x1, y1) || !within(height, 1, 99)) {
                return BAD;
            }
            if (wireCount >= MOST_OTHERS) {
                return FULL;
            }
            wires[wireCount] = new Box(x0, y0, x1, y1);
            wireHeights[wireCount] = height;
            return wireCount++;
        }

        int lower(int wire, boolean is) {
            if (!within(wire, 0, wireCount - 1)) {
                return BAD;
            }
            boolean was = wireDown[wire];
            wireDown[wire] = is;
            return was == is ? 0 : 1;
        }

        int wiresThatHang() {
            int hanging = 0;
            for (int wire = 0; wire < wireCount; wire++) {
                if (!wireDown[wire]) {
                    hanging++;
                }
            }
            return hanging;
        }

        int addSlope(int x0, int y0, int x1, int y1, int riseX, int riseY, boolean wet) {
            if (!isBox(x0, y0, x1, y1) || !within(riseX, -200, 200) || !within(riseY, -200, 200)) {
                return BAD;
            }
            if (slopeCount >= MOST_OTHERS) {
                return FULL;
            }
            slopes[slopeCount] = new Box(x0, y0, x1, y1);
            risesX[slopeCount] = riseX;
            risesY[slopeCount] = riseY;
            wets[slopeCount] = wet;
            return slopeCount++;
        }

        int wetAll(boolean wet) {
            int changed = 0;
            for (int slope = 0; slope < slopeCount; slope++) {
                if (wets[slope] != wet) {
                    wets[slope] = wet;
                    changed++;
                }
            }
            return changed;
        }

        int slopeAt(int x, int y) {
            for (int slope = 0; slope < slopeCount; slope++) {
                if (slopes[slope].holds(x, y)) {
                    return slope;
                }
            }
            return NONE;
        }

        private boolean isSlope(int slope) {
            return within(slope, 0, slopeCount - 1);
        }

        int riseXOf(int slope) {
            return isSlope(slope) ? risesX[slope] : 0;
        }

        int riseYOf(int slope) {
            return isSlope(slope) ? risesY[slope] : 0;
        }

        boolean isWet(int slope) {
            return isSlope(slope) && wets[slope];
        }

        /** The least house whose walls a storey of the car touches, as the car is laid now. */
        int houseMet(Car car) {
            for (int house = 0; house < houseCount; house++) {
                for (int storey = 0; storey < car.storeyCount; storey++) {
                    if (tops[house] > car.footOf(storey) && car.rects[storey].touchesBox(houses[house], 0)) {
                        return house;
                    }
                }
            }
            return NONE;
        }

        int eavesMet(Car car) {
            for (int house = 0; house < houseCount; house++) {
                for (int storey = 0; storey < car.storeyCount; storey++) {
                    if (eaves[house] < car.heightOf(storey) && car.footOf(storey) < tops[house] + 5
                            && car.rects[storey].touchesBox(houses[house], outs[house])) {
                        return house;
                    }
                }
            }
            return NONE;
        }

        int wireMet(Car car) {
            for (int wire = 0; wire < wireCount; wire++) {
                for (int storey = 0; storey < car.storeyCount && !wireDown[wire]; storey++) {
                    if (wireHeights[wire] > car.footOf(storey) && wireHeights[wire] <= car.heightOf(storey)
                            && car.rects[storey].touchesBox(wires[wire], 0)) {
                        return wire;
                    }
                }
            }
            return NONE;
        }

        int houseOnLine(Rect line) {
            for (int house = 0; house < houseCount; house++) {
                if (line.touchesBox(houses[house], 0)) {
                    return house;
                }
            }
            return NONE;
        }

        /** The least kerb that a wheel would stand in, if the car stood so. */
        int kerbMet(Car car, int x, int y, int h) {
            for (int kerb = 0; kerb < kerbCount; kerb++) {
                for (int wheel = 0; wheel < WHEELS; wheel++) {
                    if (kerbs[kerb].holdsInside(x + car.wheelX(wheel, h), y + car.wheelY(wheel, h))) {
                        return kerb;
                    }
                }
            }
            return NONE;
        }
    }

    /** One car with its storeys, its ropes and its standing (x, y in 65ths). */
    private static final class Car {
        private static final int MOST_STOREYS = 5;

        private final int longs, broad;
        final int weight;
        private final int sway;
        private final int[] heights = new int[MOST_STOREYS];
        private final int[] halfLongs = new int[MOST_STOREYS];
        private final int[] halfBroads = new int[MOST_STOREYS];
        int storeyCount;
        final Rect[] rects = new Rect[MOST_STOREYS];
        int x, y, h;
        boolean stands;
        int movesDone;
        final int[] ropeHands = new int[WHEELS];
        final int[] ropeLength = new int[WHEELS];
        final int[] ropeBend = new int[WHEELS];

        Car(int longs, int broad, int weight, int sway) {
            this.longs = longs;
            this.broad = broad;
            this.weight = weight;
            this.sway = sway;
            Arrays.fill(ropeLength, 20);
            for (int storey = 0; storey < MOST_STOREYS; storey++) {
                rects[storey] = new Rect();
            }
        }

        int addStorey(int height, int halfLong, int halfBroad) {
            if (!within(height, 1, 99) || height <= footOf(storeyCount)) {
                return BAD;
            }
            if (!within(halfLong, 1, 30) || !within(halfBroad, 1, 30)) {
                return BAD;
            }
            if (storeyCount >= MOST_STOREYS) {
                return FULL;
            }
            heights[storeyCount] = height;
            halfLongs[storeyCount] = halfLong;
            halfBroads[storeyCount] = halfBroad;
            storeyCount++;
            return storeyCount;
        }

        int heightOf(int storey) {
            return storey >= 0 && storey < storeyCount ? heights[storey] : 0;
        }

        int footOf(int storey) {
            return heightOf(storey - 1);
        }

        /** Lays the storeys' rectangles as they would be there; where the car stands stays as it is. */
        void layAt(int atX, int atY, int heading) {
            int c = cosine(heading);
            int s = sine(heading);
            for (int storey = 0; storey < storeyCount; storey++) {
                int more = sway * heights[storey] / 100;
                int wholeLong = 2 * (halfLongs[storey] + more);
                int wholeBroad = 2 * (halfBroads[storey] + more);
                rects[storey].lay(2 * atX, 2 * atY, c, s, wholeLong, wholeBroad);
            }
        }

        void standAt(int atX, int atY, int heading) {
            x = atX;
            y = atY;
            h = heading;
            stands = true;
        }

        private int alongOf(int wheel) {
            return wheel < 2 ? longs : -longs;
        }

        private int acrossOf(int wheel) {
            return wheel % 2 == 0 ? broad : -broad;
        }

        /** How far off the middle the wheel is along x, if the car had that heading. */
        int wheelX(int wheel, int heading) {
            return alongOf(wheel) * cosine(heading) - acrossOf(wheel) * sine(heading);
        }

        int wheelY(int wheel, int heading) {
            return alongOf(wheel) * sine(heading) + acrossOf(wheel) * cosine(heading);
        }

        boolean isSlack(int rope) {
            return !within(rope, 0, WHEELS - 1) || ropeHands[rope] < 10;
        }

        /** The rope's heading less the car's. */
        int ropeTurn(int rope) {
            if (!within(rope, 0, WHEELS - 1)) {
                return 0;
            }
            return rope < 2 ? ropeBend[rope] : 18 + ropeBend[rope];
        }

        void layRope(Rect rect, int rope) {
            if (!within(rope, 0, WHEELS - 1)) {
                return;
            }
            int heading = h + ropeTurn(rope);
            int c = cosine(heading);
            int s = sine(heading);
            int length = ropeLength[rope];
            int middleX = 2 * (x + wheelX(rope, h)) + length * c;
            int middleY = 2 * (y + wheelY(rope, h)) + length * s;
            rect.lay(middleX, middleY, c, s, length, 0);
        }

        int tell(int what) {
            switch (what) {
                case 0: return longs;
                case 1: return broad;
                case 2: return weight;
                case 3: return sway;
                case 4: return storeyCount;
                case 5: return stands ? x : LEAST;
                case 6: return stands ? y : LEAST;
                case 7: return stands ? h : LEAST;
                case 8: return movesDone;
                case 9: return stands ? 1 : 0;
                default: return LEAST;
            }
        }
    }

    /** All cars, what they would meet, how they move and are pulled. */
    private static final class Fleet {
        private static final int MOST_CARS = 4;
        private static final int MOST_WOODS = 20;

        private final Streets streets;
        private final Car[] cars = new Car[MOST_CARS];
        int carCount;
        int feetDrawn = 4;
        private int force = 3, roll = 20, grip = 12;
        private final Rect line = new Rect();
        int aimX, aimY, aimH;

        Fleet(Streets streets) {
            this.streets = streets;
        }

        Car carAt(int number) {
            return within(number, 0, carCount - 1) ? cars[number] : null;
        }

        int addCar(int longs, int broad, int weight, int sway) {
            if (!within(longs, 2, 30) || !within(broad, 2, 30) || !within(weight, 1, 999) || !within(sway, 0, 20)) {
                return BAD;
            }
            if (carCount >= MOST_CARS) {
                return FULL;
            }
            cars[carCount] = new Car(longs, broad, weight, sway);
            return carCount++;
        }

        int carsThatStand() {
            int standing = 0;
            for (int car = 0; car < carCount; car++) {
                if (cars[car].stands) {
                    standing++;
                }
            }
            return standing;
        }

        int tellNumber(int what, int v) {
            int was;
            if (what == 0 && within(v, 1, 9)) {
                was = force;
                force = v;
            } else if (what == 1 && within(v, 0, 100)) {
                was = roll;
                roll = v;
            } else if (what == 2 && within(v, 1, 99)) {
                was = grip;
                grip = v;
            } else {
                was = BAD;
            }
            return was;
        }

        boolean drive(Car car, int move) {
            if (!car.stands) {
                return false;
            }
            aim(car, car.x, car.y, car.h, move);
            if (firstMet(car, aimX, aimY, aimH) != 0) {
                return false;
            }
            car.standAt(aimX, aimY, aimH);
            car.movesDone++;
            return true;
        }

        /** Where a move would bring the car from a standing; it is told in aimX, aimY, aimH. */
        void aim(Car car, int x, int y, int h, int move) {
            if (move < 2) {
                int way = move == 0 ? feetDrawn : -feetDrawn;
                aimX = x + way * cosine(h);
                aimY = y + way * sine(h);
                aimH = h;
            } else {
                int wheel = (move - 2) % WHEELS;
                aimH = (move < 6 ? h + 1 : h + HEADINGS - 1) % HEADINGS;
                aimX = x + car.wheelX(wheel, h) - car.wheelX(wheel, aimH);
                aimY = y + car.wheelY(wheel, h) - car.wheelY(wheel, aimH);
            }
        }

        /** What the car would not be clear of at a standing, as meets() numbers it; 0 if of nothing. */
        int firstMet(Car car, int x, int y, int h) {
            car.layAt(x, y, h);
            int met = streets.houseMet(car);
            if (met != NONE) {
                return 1000 + met;
            }
            met = streets.eavesMet(car);
            if (met != NONE) {
                return 2000 + met;
            }
            met = streets.wireMet(car);
            if (met != NONE) {
                return 3000 + met;
            }
            met = streets.kerbMet(car, x, y, h);
            if (met != NONE) {
                return 4000 + met;
            }
            met = carMet(car);
            if (met != NONE) {
                return 5000 + met;
            }
            return within(x, -FAR, FAR) && within(y, -FAR, FAR) ? 0 : 6000;
        }

        /** The least other car that is touched, if this one is laid where it would stand. */
        private int carMet(Car car) {
            for (int number = 0; number < carCount; number++) {
                Car there = cars[number];
                if (there == car || !there.stands) {
                    continue;
                }
                there.layAt(there.x, there.y, there.h);
                for (int storey = 0; storey < car.storeyCount; storey++) {
                    if (storeyTouches(car, storey, there)) {
                        return number;
                    }
                }
            }
            return NONE;
        }

        private static boolean storeyTouches(Car car, int storey, Car there) {
            Rect mine = car.rects[storey];
            for (int high = 0; high < there.storeyCount; high++) {
                Rect theirs = there.rects[high];
                if (car.footOf(storey) < there.heightOf(high) && there.footOf(high) < car.heightOf(storey)
                        && !mine.liesApartFrom(theirs) && !theirs.liesApartFrom(mine)) {
                    return true;
                }
            }
            return false;
        }

        /** The least house that a rope bites: a rope is a rectangle without breadth. */
        int houseBitten(Car car, int rope) {
            car.layRope(line, rope);
            return streets.houseOnLine(line);
        }

        private boolean isWetUnder(Car car) {
            return streets.isWet(streets.slopeAt(car.x, car.y));
        }

        int pullOf(Car car) {
            boolean wet = isWetUnder(car);
            int all = 0;
            for (int rope = 0; rope < WHEELS; rope++) {
                if (!car.isSlack(rope) && houseBitten(car, rope) == NONE) {
                    int one = car.ropeHands[rope] * force * cosine(car.ropeTurn(rope)) / 65;
                    all += wet ? one * 3 / 4 : one;
                }
            }
            return all;
        }

        int needOf(Car car) {
            int slope = streets.slopeAt(car.x, car.y);
            int rise = streets.riseXOf(slope) * cosine(car.h) + streets.riseYOf(slope) * sine(car.h);
            int tenfold = car.weight * (roll + Math.floorDiv(rise, 65));
            return -Math.floorDiv(-tenfold, 10);
        }

        int fewestWoods(Car car) {
            int drag = -needOf(car);
            int back = Math.max(0, -pullOf(car));
            boolean wet = isWetUnder(car);
            for (int n = 0; n <= MOST_WOODS; n++) {
                int held = wet ? n * grip / 2 : n * grip;
                if (held + back >= drag) {
                    return n;
                }
            }
            return NONE;
        }
    }

    /** Looks for a car's way in breadth; its rows are made once and used by every search. */
    private static final class WaySearch {
        private static final int MOST_STANDINGS = 1500;
        private static final int MOST_STEPS = 12;
        private static final int BUCKETS = 1024;

        private final Fleet fleet;
        private final long[] standings = new long[MOST_STANDINGS];
        private final int[] comeFrom = new int[MOST_STANDINGS];
        private final int[] nextInBucket = new int[MOST_STANDINGS];
        private final int[] buckets = new int[BUCKETS];
        int counted;
        private final int[] steps = new int[MOST_STEPS];
        private int stepCount;
        private Car car;
        private Box goal;
        private int goalHeading;

        WaySearch(Fleet fleet) {
            this.fleet = fleet;
        }

        int stepAt(int i) {
            return within(i, 0, stepCount - 1) ? steps[i] : BAD;
        }

        int find(Car toMove, Box toReach, int heading) {
            car = toMove;
            goal = toReach;
            goalHeading = heading;
            counted = 0;
            Arrays.fill(buckets, NONE);
            note(standingOf(car.x, car.y, car.h), 0);
            if (isGoal(car.x, car.y, car.h)) {
                stepCount = 0;
                return 0;
            }
            int from = 0;
            for (int depth = 1; depth <= MOST_STEPS; depth++) {
                int to = counted;
                while (from < to) {
                    int answer = goOn(from, depth);
                    if (answer != NONE) {
                        return answer;
                    }
                    from++;
                }
            }
            return NOT;
        }

        /** Counts all that is come to from one standing; NONE, if the search is to go on behind it. */
        private int goOn(int from, int depth) {
            long standing = standings[from];
            int x = (int) (standing >> 23) - FAR;
            int y = (int) (standing >> 6 & 0x1FFFF) - FAR;
            int h = (int) (standing & 63);
            for (int move = 0; move < MOVES; move++) {
                fleet.aim(car, x, y, h, move);
                int toX = fleet.aimX;
                int toY = fleet.aimY;
                int toH = fleet.aimH;
                long to = standingOf(toX, toY, toH);
                if (isNoted(to) || fleet.firstMet(car, toX, toY, toH) != 0) {
                    continue;
                }
                if (counted >= MOST_STANDINGS) {
                    return SPENT;
                }
                note(to, from * 16 + move);
                if (isGoal(toX, toY, toH)) {
                    keepSteps(depth);
                    return depth;
                }
            }
            return NONE;
        }

        /** x and y take 17 bits each and the heading 6: no car that is clear stands farther off. */
        private static long standingOf(int x, int y, int h) {
            return (long) (x + FAR) << 23 | (long) (y + FAR) << 6 | h;
        }

        private static int bucketOf(long standing) {
            return (int) (standing ^ standing >>> 19) * 0x9E3779B1 >>> 22;
        }

        private boolean isNoted(long standing) {
            int at = buckets[bucketOf(standing)];
            for (int looked = 0; looked < MOST_STANDINGS && at >= 0; looked++) {
                if (standings[at] == standing) {
                    return true;
                }
                at = nextInBucket[at];
            }
            return false;
        }

        private void note(long standing, int from) {
            int bucket = bucketOf(standing);
            standings[counted] = standing;
            comeFrom[counted] = from;
            nextInBucket[counted] = buckets[bucket];
            buckets[bucket] = counted;
            counted++;
        }

        private boolean isGoal(int x, int y, int h) {
            if (h != goalHeading) {
                return false;
            }
            for (int wheel = 0; wheel < WHEELS; wheel++) {
                if (!goal.holds(x + car.wheelX(wheel, h), y + car.wheelY(wheel, h))) {
                    return false;
                }
            }
            return true;
        }

        /** The standing counted last is the goal: the steps are read back from there. */
        private void keepSteps(int depth) {
            int at = counted - 1;
            for (int step = depth - 1; step >= 0; step--) {
                steps[step] = comeFrom[at] & 15;
                at = comeFrom[at] >> 4;
            }
            stepCount = depth;
        }
    }

    /** Teams, stages and the roster. */
    private static final class Shifts {
        private static final int MOST_TEAMS = 4, MOST_STAGES = 6;
        private static final int STATES = 256;
        private static final int TOO_MANY = 1000;

        private final int[] hands = new int[MOST_TEAMS];
        int teamCount;
        private final int[] needs = new int[MOST_STAGES];
        int stageCount;
        private int longest = 2;
        /** The fewest from a stage on, by how long each team has pulled ahead of it (two bits each). */
        private final int[][] fewestFrom = new int[MOST_STAGES + 1][STATES];
        private final int[] chosen = new int[MOST_STAGES];
        private boolean reckoned;

        int addTeam(int h) {
            if (!within(h, 1, 300)) {
                return BAD;
            }
            if (teamCount >= MOST_TEAMS) {
                return FULL;
            }
            reckoned = false;
            hands[teamCount] = h;
            return teamCount++;
        }

        int addStage(int need) {
            if (!within(need, 0, 2000)) {
                return BAD;
            }
            if (stageCount >= MOST_STAGES) {
                return FULL;
            }
            reckoned = false;
            needs[stageCount] = need;
            return stageCount++;
        }

        int tellRun(int r) {
            if (!within(r, 1, 3)) {
                return BAD;
            }
            reckoned = false;
            int was = longest;
            longest = r;
            return was;
        }

        int fewest() {
            reckon();
            return fewestFrom[0][0] >= TOO_MANY ? NOT : fewestFrom[0][0];
        }

        int teamsOf(int stage) {
            if (!within(stage, 0, stageCount - 1)) {
                return BAD;
            }
            return fewest() == NOT ? NOT : chosen[stage];
        }

        private void reckon() {
            if (reckoned) {
                return;
            }
            Arrays.fill(fewestFrom[stageCount], 0);
            for (int stage = stageCount - 1; stage >= 0; stage--) {
                for (int state = 0; state < STATES; state++) {
                    fewestFrom[stage][state] = fewestAt(stage, state);
                }
            }
            if (fewestFrom[0][0] < TOO_MANY) {
                choose();
            }
            reckoned = true;
        }

        private int fewestAt(int stage, int state) {
            int least = TOO_MANY;
            for (int bits = 0; bits < 1 << teamCount; bits++) {
                least = Math.min(least, fewestWith(stage, state, bits));
            }
            return least;
        }

        private int fewestWith(int stage, int state, int bits) {
            int next = stateBehind(state, bits);
            if (next == NONE || handsOf(bits) < needs[stage]) {
                return TOO_MANY;
            }
            return Math.min(TOO_MANY, Integer.bitCount(bits) + fewestFrom[stage + 1][next]);
        }

        private int handsOf(int bits) {
            int all = 0;
            for (int team = 0; team < teamCount; team++) {
                if ((bits >> team & 1) == 1) {
                    all += hands[team];
                }
            }
            return all;
        }

        /** How long each team has pulled behind a stage; NONE, if one would pull for too long. */
        private int stateBehind(int state, int bits) {
            int behind = 0;
            for (int team = 0; team < teamCount; team++) {
                if ((bits >> team & 1) == 1) {
                    int pulled = (state >> 2 * team & 3) + 1;
                    if (pulled > longest) {
                        return NONE;
                    }
                    behind |= pulled << 2 * team;
                }
            }
            return behind;
        }

        /** The least bits that reach the fewest, stage by stage, are the roster that is due. */
        private void choose() {
            int state = 0;
            for (int stage = 0; stage < stageCount; stage++) {
                int bits = 0;
                while (bits < (1 << teamCount) - 1 && fewestWith(stage, state, bits) != fewestFrom[stage][state]) {
                    bits++;
                }
                chosen[stage] = bits;
                state = Math.max(0, stateBehind(state, bits));
            }
        }
    }

    /** The day of several cars in one lane. */
    private static final class Day {
        private static final int MOST_BLOCKS = 20, MOST_CARS = 4;
        private static final int LAST_MINUTE = 2000;
        private static final int NOT_YET = 100, GONE = 101;

        private final int[] blockMinutes = new int[MOST_BLOCKS];
        private final boolean[] sideLanes = new boolean[MOST_BLOCKS];
        private final int[] starts = new int[MOST_CARS];
        private final int[] ends = new int[MOST_CARS];
        private final int[] comes = new int[MOST_CARS];
        private final int[] stuckFrom = new int[MOST_CARS];
        private final int[] stuckTo = new int[MOST_CARS];
        int carCount;
        private final int[] places = new int[MOST_CARS];
        private final int[] since = new int[MOST_CARS];
        private final int[] goneAt = new int[MOST_CARS];

        Day() {
            Arrays.fill(blockMinutes, 10);
        }

        int tellBlock(int b, int minutes, boolean side) {
            if (!within(b, 0, MOST_BLOCKS - 1) || !within(minutes, 1, 60)) {
                return BAD;
            }
            blockMinutes[b] = minutes;
            sideLanes[b] = side;
            return 1;
        }

        int addCar(int from, int to, int minute) {
            if (!within(from, 0, MOST_BLOCKS - 1) || !within(to, 0, MOST_BLOCKS - 1) || from == to
                    || !within(minute, 0, 999)) {
                return BAD;
            }
            if (carCount >= MOST_CARS) {
                return FULL;
            }
            starts[carCount] = from;
            ends[carCount] = to;
            comes[carCount] = minute;
            stuckFrom[carCount] = 0;
            stuckTo[carCount] = 0;
            return carCount++;
        }

        int stick(int car, int from, int to) {
            if (!within(car, 0, carCount - 1) || !within(from, 0, LAST_MINUTE) || !within(to, 0, LAST_MINUTE)
                    || from >= to) {
                return BAD;
            }
            stuckFrom[car] = from;
            stuckTo[car] = to;
            return 1;
        }

        int clearCars() {
            int were = carCount;
            carCount = 0;
            return were;
        }

        int goneOf(int car) {
            if (!within(car, 0, carCount - 1)) {
                return BAD;
            }
            passTo(LAST_MINUTE);
            return goneAt[car];
        }

        int placeOf(int car, int minute) {
            if (!within(car, 0, carCount - 1) || !within(minute, 0, LAST_MINUTE)) {
                return BAD;
            }
            passTo(minute);
            return places[car];
        }

        private void passTo(int last) {
            Arrays.fill(places, NOT_YET);
            Arrays.fill(goneAt, NONE);
            for (int minute = 0; minute <= last; minute++) {
                for (int car = 0; car < carCount; car++) {
                    if (minute < stuckFrom[car] || minute >= stuckTo[car]) {
                        pass(car, minute);
                    }
                }
            }
        }

        private void pass(int car, int minute) {
            int block = places[car];
            if (block == NOT_YET) {
                if (minute >= comes[car]) {
                    enterBlock(car, starts[car], minute);
                }
            } else if (block != GONE && hasStayed(car, minute)) {
                if (block == ends[car]) {
                    places[car] = GONE;
                    goneAt[car] = minute;
                } else {
                    enterBlock(car, block < ends[car] ? block + 1 : block - 1, minute);
                }
            }
        }

        private boolean hasStayed(int car, int minute) {
            int block = places[car];
            return within(block, 0, MOST_BLOCKS - 1) && minute - since[car] >= blockMinutes[block];
        }

        private void enterBlock(int car, int block, int minute) {
            if (within(block, 0, MOST_BLOCKS - 1) && hasRoom(block)) {
                places[car] = block;
                since[car] = minute;
            }
        }

        private boolean hasRoom(int block) {
            int there = 0;
            for (int car = 0; car < carCount; car++) {
                if (places[car] == block) {
                    there++;
                }
            }
            return there < (sideLanes[block] ? 2 : 1);
        }
    }

    /** What must be cut or taken down, and the crews that do it. */
    private static final class Tasks {
        private static final int MOST_TASKS = 12, MOST_CREWS = 4;

        private final int[] lasting = new int[MOST_TASKS];
        private final int[] dues = new int[MOST_TASKS];
        int taskCount;
        private int crewCount = 1;
        private final int[] lates = new int[MOST_TASKS];
        private final boolean[] taken = new boolean[MOST_TASKS];
        private final int[] freeFrom = new int[MOST_CREWS];

        int addTask(int minutes, int due) {
            if (!within(minutes, 1, 200) || !within(due, 0, 2000)) {
                return BAD;
            }
            if (taskCount >= MOST_TASKS) {
                return FULL;
            }
            lasting[taskCount] = minutes;
            dues[taskCount] = due;
            return taskCount++;
        }

        int tellCrews(int n) {
            if (!within(n, 1, MOST_CREWS)) {
                return BAD;
            }
            int were = crewCount;
            crewCount = n;
            return were;
        }

        int lateOf(int task) {
            if (!within(task, 0, taskCount - 1)) {
                return -10000;
            }
            share();
            return lates[task];
        }

        int greatestLate() {
            share();
            int greatest = 0;
            for (int task = 0; task < taskCount; task++) {
                greatest = Math.max(greatest, lates[task]);
            }
            return greatest;
        }

        int howManyLate() {
            share();
            int late = 0;
            for (int task = 0; task < taskCount; task++) {
                if (lates[task] > 0) {
                    late++;
                }
            }
            return late;
        }

        private void share() {
            Arrays.fill(freeFrom, 0);
            for (int task = 0; task < taskCount; task++) {
                taken[task] = false;
            }
            for (int turn = 0; turn < taskCount; turn++) {
                int task = nextTask();
                int crew = firstFree();
                freeFrom[crew] += lasting[task];
                lates[task] = freeFrom[crew] - dues[task];
                taken[task] = true;
            }
        }

        private int nextTask() {
            int next = 0;
            int least = 2001;
            for (int task = 0; task < taskCount; task++) {
                if (!taken[task] && dues[task] < least) {
                    least = dues[task];
                    next = task;
                }
            }
            return next;
        }

        private int firstFree() {
            int first = 0;
            for (int crew = 1; crew < crewCount; crew++) {
                if (freeFrom[crew] < freeFrom[first]) {
                    first = crew;
                }
            }
            return first;
        }
    }

    /** The text of a day's orders. */
    private static final class Orders {
        private static final int MOST_BYTES = 80;

        private final Streets streets;
        private final Fleet fleet;
        private final int[] text = new int[MOST_BYTES];
        int length;

        Orders(Streets streets, Fleet fleet) {
            this.streets = streets;
            this.fleet = fleet;
        }

        int append(int b) {
            if (!within(b, 0, 255)) {
                return BAD;
            }
            if (length >= MOST_BYTES) {
                return FULL;
            }
            text[length] = b;
            length++;
            return length;
        }

        int clear() {
            int had = length;
            length = 0;
            return had;
        }

        private int byteAt(int place) {
            return within(place, 0, length - 1) ? text[place] : NONE;
        }

        private boolean isFigure(int place) {
            return within(byteAt(place), '0', '9');
        }

        private int figuresAt(int place) {
            if (!isFigure(place)) {
                return 0;
            }
            return isFigure(place + 1) ? 2 : 1;
        }

        private int numberAt(int place) {
            int first = byteAt(place) - '0';
            return figuresAt(place) == 2 ? 10 * first + byteAt(place + 1) - '0' : first;
        }

        /** The greatest number that may stand behind a letter; NONE, if it is no letter of a part. */
        private static int mostBehind(int letter) {
            switch (letter) {
                case 'd':
                case 'b': return 40;
                case 'l':
                case 'r': return 3;
                case 'w': return 9;
                case 'f': return 20;
                default: return NONE;
            }
        }

        private static int leastBehind(int letter) {
            return letter == 'l' || letter == 'r' || letter == 'w' ? 0 : 1;
        }

        int faultPlace() {
            int place = 0;
            while (place < length) {
                int letter = byteAt(place);
                if (mostBehind(letter) == NONE) {
                    return place;
                }
                int figures = figuresAt(place + 1);
                if (figures == 0 || !within(numberAt(place + 1), leastBehind(letter), mostBehind(letter))) {
                    return place + 1;
                }
                place += 1 + figures;
                if (place == length) {
                    return NONE;
                }
                if (byteAt(place) != ';') {
                    return place;
                }
                place++;
            }
            return length;
        }

        /** Only for a text without a fault. Tells how many moves were done. */
        int carryOut(Car car) {
            int done = 0;
            int place = 0;
            while (place < length) {
                int letter = byteAt(place);
                int number = numberAt(place + 1);
                int asked = movesAsked(letter, number);
                for (int made = 0; made < asked; made++) {
                    if (!fleet.drive(car, moveOf(letter, number))) {
                        return done;
                    }
                    done++;
                }
                if (!otherDone(letter, number)) {
                    return done;
                }
                place += 2 + figuresAt(place + 1);
            }
            return done;
        }

        private static int movesAsked(int letter, int number) {
            switch (letter) {
                case 'd':
                case 'b': return number;
                case 'l':
                case 'r': return 1;
                default: return 0;
            }
        }

        private static int moveOf(int letter, int number) {
            switch (letter) {
                case 'd': return 0;
                case 'b': return 1;
                case 'l': return 2 + number;
                default: return 6 + number;
            }
        }

        private boolean otherDone(int letter, int number) {
            if (letter == 'w') {
                return streets.lower(number, true) != BAD;
            }
            if (letter == 'f') {
                fleet.feetDrawn = number;
            }
            return true;
        }
    }

    /** Sheets of numbers; their rows are used again, as nobody sees a row that is replaced. */
    private static final class Sheets {
        private static final int MOST_SHEETS = 4, MOST_ITEMS = 60;
        private static final int FORMS = 3;
        private static final int PER_HOUSE = 7;

        private final int[][] rows = new int[MOST_SHEETS][MOST_ITEMS];
        private final int[] forms = new int[MOST_SHEETS];
        private final int[] sizes = new int[MOST_SHEETS];
        int finding;

        Sheets() {
            Arrays.fill(forms, NONE);
        }

        private static boolean isSheet(int s) {
            return within(s, 0, MOST_SHEETS - 1);
        }

        private static boolean isForm(int form) {
            return within(form, 0, FORMS - 1);
        }

        private int find(int number) {
            finding = number;
            return -10 - number;
        }

        /** What a sheet is refused with: no such sheet, or a lost one; 0 if with nothing. */
        int refusalOf(int s) {
            if (!isSheet(s)) {
                return BAD;
            }
            return forms[s] == NONE ? find(NULL_FOUND) : 0;
        }

        int renew(int s, int form, int n) {
            if (!isSheet(s) || !isForm(form) || n > MOST_ITEMS) {
                return BAD;
            }
            if (n < 0) {
                return find(SIZE_FOUND);
            }
            Arrays.fill(rows[s], 0);
            forms[s] = form;
            sizes[s] = n;
            return n;
        }

        int drop(int s) {
            int refusal = refusalOf(s);
            if (refusal != 0) {
                return refusal;
            }
            forms[s] = NONE;
            return sizes[s];
        }

        private int refusalOfItem(int s, int form, int i) {
            if (!isSheet(s) || !isForm(form)) {
                return BAD;
            }
            if (forms[s] == NONE) {
                return find(NULL_FOUND);
            }
            if (forms[s] != form) {
                return find(CAST_FOUND);
            }
            return within(i, 0, sizes[s] - 1) ? 0 : find(INDEX_FOUND);
        }

        private static int lowestBits(int form, int v) {
            switch (form) {
                case 0: return (byte) v;
                case 1: return (short) v;
                default: return v;
            }
        }

        int write(int s, int form, int i, int v) {
            int refusal = refusalOfItem(s, form, i);
            if (refusal != 0) {
                return refusal;
            }
            rows[s][i] = lowestBits(form, v);
            return 1;
        }

        int read(int s, int form, int i) {
            return refusalOfItem(s, form, i) == 0 ? rows[s][i] : LEAST;
        }

        private boolean hasItems(int s, int from, int n) {
            return from >= 0 && n >= 0 && n <= sizes[s] && from <= sizes[s] - n;
        }

        int carryOver(int s, int i, int t, int j, int n) {
            if (!isSheet(s) || !isSheet(t)) {
                return BAD;
            }
            if (forms[s] == NONE || forms[t] == NONE) {
                return find(NULL_FOUND);
            }
            if (forms[s] != forms[t]) {
                return find(STORE_FOUND);
            }
            if (!hasItems(s, i, n) || !hasItems(t, j, n)) {
                return find(INDEX_FOUND);
            }
            System.arraycopy(rows[s], i, rows[t], j, n);
            return 1;
        }

        /** Only for a sheet that is not refused. Tells how many houses came. */
        int buildHouses(int s, Streets streets) {
            if (!isSheet(s)) {
                return 0;
            }
            int built = 0;
            for (int at = 0; at + PER_HOUSE <= sizes[s] && at + PER_HOUSE <= MOST_ITEMS; at += PER_HOUSE) {
                int[] r = rows[s];
                int number = streets.addHouse(r[at], r[at + 1], r[at + 2], r[at + 3], r[at + 4], r[at + 5], r[at + 6]);
                if (number < 0) {
                    return built;
                }
                built++;
            }
            return built;
        }
    }
}
