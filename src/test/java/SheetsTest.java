/** Promises 49 to 56. */
public final class SheetsTest {
    private static final int LEAST = Integer.MIN_VALUE;

    public static void main(String[] args) {
        sheets();
        items();
        copies();
        measures();
        counts();
        digest();
        Due.close("SheetsTest");
    }

    private static void sheets() {
        FloatTowers x = new FloatTowers();
        Due.is("49: sheet -1", x.sheet(-1, 0, 1), -2);
        Due.is("49: sheet 4", x.sheet(4, 0, 1), -2);
        Due.is("49: form -1", x.sheet(0, -1, 1), -2);
        Due.is("49: form 3", x.sheet(0, 3, 1), -2);
        Due.is("49: 61", x.sheet(0, 0, 61), -2);
        Due.is("49: BAD ahead of SIZE", x.sheet(4, 0, -1), -2);
        Due.is("55: no finding", x.count(9), 0);
        Due.is("49: SIZE", x.sheet(0, 0, -1), -15);
        Due.is("55: SIZE", x.count(9), 5);
        Due.is("50: NULL", x.lose(0), -11);
        Due.is("55: NULL", x.count(9), 1);
        Due.is("49: 60", x.sheet(0, 0, 60), 60);
        Due.is("49: none", x.sheet(1, 2, 0), 0);
        Due.is("49: SIZE leaves the former", x.sheet(0, 0, -9), -15);
        x.put(0, 0, 3, 9);
        Due.is("49: anew", x.sheet(0, 0, 5), 5);
        Due.is("52: 0 at first", x.get(0, 0, 3), 0);
        Due.is("50: five", x.lose(0), 5);
        Due.is("50: NULL", x.lose(0), -11);
        Due.is("50: none", x.lose(1), 0);
        Due.is("50: -1", x.lose(-1), -2);
        Due.is("50: 4", x.lose(4), -2);
    }

    private static void items() {
        FloatTowers x = new FloatTowers();
        Due.is("51: NULL", x.put(0, 0, 0, 0), -11);
        Due.is("52: NULL", x.get(0, 0, 0), LEAST);
        x.sheet(0, 0, 3);
        x.sheet(1, 1, 3);
        x.sheet(2, 2, 3);
        Due.is("51: sheet 4", x.put(4, 0, 0, 0), -2);
        Due.is("51: sheet -1", x.put(-1, 0, 0, 0), -2);
        Due.is("51: form 3", x.put(0, 3, 0, 0), -2);
        Due.is("51: form -1", x.put(0, -1, 0, 0), -2);
        Due.is("51: BAD ahead of NULL", x.put(3, 3, 0, 0), -2);
        Due.is("52: sheet 4", x.get(4, 0, 0), LEAST);
        Due.is("52: form 3", x.get(0, 3, 0), LEAST);
        Due.is("55: as it was", x.count(9), 1);
        Due.is("51: CAST ahead of INDEX", x.put(0, 1, 9, 0), -13);
        Due.is("55: CAST", x.count(9), 3);
        Due.is("51: INDEX", x.put(0, 0, 3, 0), -12);
        Due.is("51: INDEX -1", x.put(0, 0, -1, 0), -12);
        Due.is("52: CAST", x.get(1, 0, 0), LEAST);
        Due.is("55: CAST", x.count(9), 3);
        Due.is("52: INDEX", x.get(2, 2, 3), LEAST);
        Due.is("55: INDEX", x.count(9), 2);
        Due.is("52: NULL", x.get(3, 2, 3), LEAST);
        Due.is("55: NULL", x.count(9), 1);
        int v = 0x12348fc1;
        Due.is("51: byte", x.put(0, 0, 2, v), 1);
        Due.is("51: short", x.put(1, 1, 2, v), 1);
        Due.is("51: int", x.put(2, 2, 2, v), 1);
        Due.is("52: byte", x.get(0, 0, 2), 0xc1 - 256);
        Due.is("52: short", x.get(1, 1, 2), 0x8fc1 - 65536);
        Due.is("52: int", x.get(2, 2, 2), v);
        x.put(0, 0, 0, 127);
        Due.is("52: 127", x.get(0, 0, 0), 127);
        Due.is("52: the one between", x.get(0, 0, 1), 0);
    }

    private static void copies() {
        FloatTowers x = new FloatTowers();
        x.sheet(0, 2, 6);
        Due.is("53: NULL", x.copy(0, 0, 1, 0, 1), -11);
        Due.is("53: NULL", x.copy(1, 0, 0, 0, 1), -11);
        Due.is("53: sheet 4", x.copy(4, 0, 0, 0, 1), -2);
        Due.is("53: sheet -1", x.copy(0, 0, -1, 0, 1), -2);
        Due.is("53: BAD ahead of NULL", x.copy(1, 0, 4, 0, 1), -2);
        x.sheet(1, 1, 6);
        Due.is("53: STORE ahead of INDEX", x.copy(0, 9, 1, 0, 1), -14);
        Due.is("55: STORE", x.count(9), 4);
        x.sheet(2, 2, 4);
        for (int i = 0; i < 6; i++) {
            x.put(0, 2, i, 10 + i);
        }
        Due.is("53: not so many in s", x.copy(0, 3, 2, 0, 4), -12);
        Due.is("53: not so many in t", x.copy(0, 0, 2, 1, 4), -12);
        Due.is("53: n below 0", x.copy(0, 0, 2, 0, -1), -12);
        Due.is("53: i below 0", x.copy(0, -1, 2, 0, 1), -12);
        Due.is("53: j below 0", x.copy(0, 0, 2, -1, 1), -12);
        Due.is("53: i and n beyond all ints", x.copy(0, 1, 2, 0, Integer.MAX_VALUE), -12);
        Due.is("53: i beyond", x.copy(0, Integer.MAX_VALUE, 2, 0, 1), -12);
        Due.is("52: nothing came", x.get(2, 2, 0), 0);
        Due.is("53: none at the end", x.copy(0, 6, 2, 4, 0), 1);
        Due.is("53: none behind the end", x.copy(0, 7, 2, 4, 0), -12);
        Due.is("53: four", x.copy(0, 2, 2, 0, 4), 1);
        Due.is("52: first", x.get(2, 2, 0), 12);
        Due.is("52: last", x.get(2, 2, 3), 15);
        Due.is("53: onto itself, up", x.copy(0, 0, 0, 1, 5), 1);
        for (int i = 1; i < 6; i++) {
            Due.is("52: as they were " + i, x.get(0, 2, i), 9 + i);
        }
        Due.is("53: onto itself, down", x.copy(0, 2, 0, 0, 4), 1);
        Due.is("52: as they were", x.get(0, 2, 0), 11);
        Due.is("52: as they were", x.get(0, 2, 3), 14);
    }

    private static void measures() {
        FloatTowers x = new FloatTowers();
        Due.is("54: -1", x.measure(-1), -2);
        Due.is("54: 4", x.measure(4), -2);
        Due.is("54: NULL", x.measure(0), -11);
        x.sheet(0, 0, 60);
        Due.is("54: none may be", x.measure(0), 0);
        int[] house = {-9, -8, 9, 8, 7, 6, 5};
        for (int i = 0; i < 56; i++) {
            x.put(0, 0, i, house[i % 7]);
        }
        Due.is("54: eight are whole", x.measure(0), 8);
        x.put(0, 0, 20, 10);
        Due.is("54: up to the third", x.measure(0), 2);
        x.put(0, 0, 20, 9);
        Due.is("54: eight more", x.measure(0), 8);
        Due.is("54: room for two", x.measure(0), 2);
        Due.is("54: no room", x.measure(0), 0);
        Due.is("55: houses", x.count(0), 20);
        Due.is("4: OUT", x.cut(19, 0), 5);
        FloatTowers y = new FloatTowers();
        y.sheet(0, 1, 13);
        int[] wide = {-500, -500, 500, 500, 99, 99, 9, 0, 0, 1, 1, 1, 1};
        for (int i = 0; i < 13; i++) {
            y.put(0, 1, i, wide[i]);
        }
        Due.is("54: one is whole", y.measure(0), 1);
        y.sheet(0, 1, 6);
        Due.is("54: none is whole", y.measure(0), 0);
        y.sheet(0, 1, 7);
        int[] own = {-20, -21, -10, -9, 7, 3, 2};
        for (int i = 0; i < 7; i++) {
            y.put(0, 1, i, own[i]);
        }
        Due.is("54: just whole", y.measure(0), 1);
        measuredAsItIs(own);
        y.car(2, 2, 1, 0);
        y.storey(0, 99, 1, 1);
        Due.is("54: it stands", y.stand(0, 0, 0, 0), -3);
    }

    /** A small car beside each end of the house, under its eaves and above them. */
    private static void measuredAsItIs(int[] own) {
        FloatTowers x = new FloatTowers();
        x.sheet(0, 2, 7);
        for (int i = 0; i < 7; i++) {
            x.put(0, 2, i, own[i]);
        }
        x.measure(0);
        x.car(2, 2, 1, 0);
        x.storey(0, 3, 1, 1);
        Due.is("54: x0, and under E", x.stand(0, -21, -15, 0), 1);
        Due.is("54: x0", x.stand(0, -20, -15, 0), -3);
        Due.is("54: y0", x.stand(0, -15, -22, 0), 1);
        Due.is("54: y0", x.stand(0, -15, -21, 0), -3);
        Due.is("54: x1", x.stand(0, -9, -15, 0), 1);
        Due.is("54: x1", x.stand(0, -10, -15, 0), -3);
        Due.is("54: y1", x.stand(0, -15, -8, 0), 1);
        Due.is("54: y1", x.stand(0, -15, -9, 0), -3);
        x.storey(0, 4, 1, 1);
        Due.is("54: E", x.stand(0, -21, -15, 0), -3);
        Due.is("54: OUT", x.stand(0, -7, -15, 0), 1);
        Due.is("54: OUT", x.stand(0, -8, -15, 0), -3);
        x.car(2, 2, 1, 0);
        x.storey(1, 7, 1, 1);
        x.storey(1, 12, 9, 9);
        x.storey(1, 13, 14, 14);
        Due.is("54: TOP: 7 is under a foot of 7, 12 isn't under the eaves'", x.stand(1, 1, 6, 0), 1);
        Due.is("54: TOP and 5: the middle storey", x.stand(1, 0, -15, 0), -3);
        Due.is("18: nothing where it stands", x.meets(1, 10), 0);
    }

    private static void counts() {
        FloatTowers x = new FloatTowers();
        x.house(0, 0, 1, 1, 1, 1, 1);
        x.kerb(0, 0, 1, 1);
        x.kerb(0, 0, 1, 1);
        x.wire(0, 0, 1, 1, 1);
        x.wire(0, 0, 1, 1, 1);
        x.wire(0, 0, 1, 1, 1);
        x.wire(0, 0, 1, 1, 1);
        x.down(1, true);
        for (int i = 0; i < 4; i++) {
            x.slope(0, 0, 1, 1, 1, 1, true);
            x.car(2, 2, 1, 0);
            x.team(1);
            x.stage(1);
        }
        x.stand(2, 9, 9, 0);
        x.stage(2);
        x.enter(0, 1, 0);
        x.enter(0, 1, 0);
        for (int i = 0; i < 7; i++) {
            x.task(1, 1);
        }
        x.type(1);
        x.lose(0);
        x.feet(11);
        int[] due = {1, 2, 3, 4, 4, 1, 2, 7, 1, 1, 4, 5, 11};
        for (int what = 0; what < 13; what++) {
            Due.is("55: count(" + what + ")", x.count(what), due[what]);
        }
        Due.is("55: 13", x.count(13), -2);
        Due.is("55: -1", x.count(-1), -2);
    }

    private static long h;

    private static void add(long v) {
        h = 31 * h + v;
    }

    private static void digest() {
        FloatTowers x = new FloatTowers();
        h = 17;
        for (int i = 0; i < 11; i++) {
            add(0);
        }
        add(4);
        add(0);
        Due.is("56: a new object", x.digest(), h);
        for (int c = 0; c < 3; c++) {
            x.car(4, 2, 30 + c, 0);
            x.rope(c, 0, 100, 9, c);
        }
        x.stand(0, 10, 20, 3);
        x.stand(2, 50, 20, 5);
        x.team(9);
        x.stage(9);
        x.enter(0, 1, 4);
        x.enter(1, 0, 4);
        x.task(9, 4);
        x.type(7);
        x.lose(0);
        h = 17;
        for (int due : new int[] {0, 0, 0, 0, 3, 2, 2, 1, 1, 1, 1, 4}) {
            add(due);
        }
        for (long due : new long[] {4, 2, 30, 0, 0, 650, 1300, 3, 0, 1}) {
            add(due);
        }
        for (long due : new long[] {4, 2, 31, 0, 0, LEAST, LEAST, LEAST, 0, 0}) {
            add(due);
        }
        for (long due : new long[] {4, 2, 32, 0, 0, 3250, 1300, 5, 0, 1}) {
            add(due);
        }
        for (long due : new long[] {300, 60, 300 * 60 / 65, 64, -1, -1, 5, 1}) {
            add(due);
        }
        Due.is("56: cars, then their pulls and needs, the day, tasks, the roster", x.digest(), h);
        Due.is("56: again", x.digest(), h);
    }
}
