/** Promises 11 to 22. */
public final class CarsTest {
    private static final int LEAST = Integer.MIN_VALUE;

    public static void main(String[] args) {
        cars();
        storeys();
        standing();
        wheels();
        feetAndFar();
        housesAndEaves();
        wiresAndKerbs();
        otherCars();
        turnedOnes();
        moves();
        way();
        corridor();
        Due.close("CarsTest");
    }

    private static void cars() {
        FloatTowers x = new FloatTowers();
        Due.is("11: long 1", x.car(1, 2, 1, 0), -2);
        Due.is("11: long 31", x.car(31, 2, 1, 0), -2);
        Due.is("11: broad 1", x.car(2, 1, 1, 0), -2);
        Due.is("11: broad 31", x.car(2, 31, 1, 0), -2);
        Due.is("11: weight 0", x.car(2, 2, 0, 0), -2);
        Due.is("11: weight 1000", x.car(2, 2, 1000, 0), -2);
        Due.is("11: sway -1", x.car(2, 2, 1, -1), -2);
        Due.is("11: sway 21", x.car(2, 2, 1, 21), -2);
        Due.is("11: least", x.car(2, 3, 1, 0), 0);
        Due.is("11: most", x.car(30, 29, 999, 20), 1);
        Due.is("11: third", x.car(2, 2, 1, 0), 2);
        Due.is("11: fourth", x.car(2, 2, 1, 0), 3);
        Due.is("11: full", x.car(2, 2, 1, 0), -4);
        Due.is("11: BAD ahead of FULL", x.car(1, 2, 1, 0), -2);
        int[] due = {30, 29, 999, 20, 0, LEAST, LEAST, LEAST, 0, 0};
        for (int what = 0; what < 10; what++) {
            Due.is("15: about(1, " + what + ")", x.about(1, what), due[what]);
        }
        Due.is("15: what 10", x.about(1, 10), LEAST);
        Due.is("15: what -1", x.about(1, -1), LEAST);
        Due.is("15: car 4", x.about(4, 0), LEAST);
        Due.is("15: car -1", x.about(-1, 0), LEAST);
    }

    private static void storeys() {
        FloatTowers x = new FloatTowers();
        Due.is("12: no car", x.storey(0, 1, 1, 1), -2);
        x.car(2, 2, 1, 0);
        Due.is("12: height 0", x.storey(0, 0, 1, 1), -2);
        Due.is("12: height 100", x.storey(0, 100, 1, 1), -2);
        Due.is("12: half long 0", x.storey(0, 1, 0, 1), -2);
        Due.is("12: half long 31", x.storey(0, 1, 31, 1), -2);
        Due.is("12: half broad 0", x.storey(0, 1, 1, 0), -2);
        Due.is("12: half broad 31", x.storey(0, 1, 1, 31), -2);
        Due.is("12: first", x.storey(0, 10, 30, 30), 1);
        Due.is("12: not above", x.storey(0, 10, 1, 1), -2);
        Due.is("12: above", x.storey(0, 11, 1, 1), 2);
        Due.is("12: third", x.storey(0, 12, 1, 1), 3);
        Due.is("12: fourth", x.storey(0, 13, 1, 1), 4);
        Due.is("12: fifth", x.storey(0, 98, 1, 1), 5);
        Due.is("12: sixth", x.storey(0, 99, 1, 1), -4);
        Due.is("12: BAD ahead of FULL", x.storey(0, 98, 1, 1), -2);
        Due.is("15: storeys", x.about(0, 4), 5);
    }

    private static void standing() {
        FloatTowers x = new FloatTowers();
        Due.is("13: no car", x.stand(0, 0, 0, 0), -2);
        Due.is("14: no car", x.leave(0), -2);
        x.car(4, 2, 1, 0);
        x.storey(0, 9, 4, 2);
        Due.is("14: it did not stand", x.leave(0), 0);
        Due.is("13: x 501", x.stand(0, 501, 0, 0), -2);
        Due.is("13: x -501", x.stand(0, -501, 0, 0), -2);
        Due.is("13: y 501", x.stand(0, 0, 501, 0), -2);
        Due.is("13: y -501", x.stand(0, 0, -501, 0), -2);
        Due.is("13: heading 36", x.stand(0, 0, 0, 36), -2);
        Due.is("13: heading -1", x.stand(0, 0, 0, -1), -2);
        Due.is("15: stands nowhere", x.about(0, 9), 0);
        Due.is("13: stands", x.stand(0, -500, 500, 35), 1);
        Due.is("15: x", x.about(0, 5), -32500);
        Due.is("15: y", x.about(0, 6), 32500);
        Due.is("15: heading", x.about(0, 7), 35);
        Due.is("15: stands", x.about(0, 9), 1);
        x.house(-10, -10, 10, 10, 9, 9, 0);
        Due.is("13: in a house", x.stand(0, 0, 0, 0), -3);
        Due.is("13: stands as it did", x.about(0, 5), -32500);
        Due.is("13: elsewhere", x.stand(0, 14, 0, 0), 1);
        Due.is("14: leaves", x.leave(0), 1);
        Due.is("14: it did not", x.leave(0), 0);
        Due.is("15: x of none", x.about(0, 5), LEAST);
    }

    private static void wheels() {
        FloatTowers x = new FloatTowers();
        x.car(6, 3, 40, 0);
        Due.is("16: stands nowhere", x.wheel(0, 0, 0), LEAST);
        x.stand(0, 1, 2, 3);
        int[] dueX = {65 + 6 * 56 - 3 * 33, 65 + 6 * 56 + 3 * 33, 65 - 6 * 56 - 3 * 33, 65 - 6 * 56 + 3 * 33};
        int[] dueY = {130 + 6 * 33 + 3 * 56, 130 + 6 * 33 - 3 * 56, 130 - 6 * 33 + 3 * 56, 130 - 6 * 33 - 3 * 56};
        for (int w = 0; w < 4; w++) {
            Due.is("16: x of wheel " + w, x.wheel(0, w, 0), dueX[w]);
            Due.is("16: y of wheel " + w, x.wheel(0, w, 1), dueY[w]);
        }
        Due.is("16: wheel 4", x.wheel(0, 4, 0), LEAST);
        Due.is("16: wheel -1", x.wheel(0, -1, 0), LEAST);
        Due.is("16: what 2", x.wheel(0, 0, 2), LEAST);
        Due.is("16: what -1", x.wheel(0, 0, -1), LEAST);
        Due.is("16: car 1", x.wheel(1, 0, 0), LEAST);
    }

    private static void feetAndFar() {
        FloatTowers x = new FloatTowers();
        Due.is("17: 0", x.feet(0), -2);
        Due.is("17: 21", x.feet(21), -2);
        Due.is("17: was 4", x.feet(20), 4);
        Due.is("17: was 20", x.feet(20), 20);
        x.car(2, 2, 1, 0);
        x.stand(0, 500, -500, 0);
        for (int i = 0; i < 5; i++) {
            Due.is("19: 20 feet more", x.move(0, 0), 1);
        }
        x.feet(15);
        Due.is("19: to 39975", x.move(0, 0), 1);
        x.feet(1);
        Due.is("15: x", x.about(0, 5), 39975);
        Due.is("18: too far", x.meets(0, 0), 6000);
        Due.is("19: too far", x.move(0, 0), -3);
        Due.is("18: as it stands", x.meets(0, 10), 0);
        x.kerb(499, -500, 500, -499);
        Due.is("18: turned about wheel 0 it is 28 less", x.meets(0, 6), 0);
        Due.is("18: or 36 more", x.meets(0, 2), 6000);
        x.stand(0, 0, -500, 27);
        x.feet(20);
        for (int i = 0; i < 5; i++) {
            Due.is("19: 20 feet down", x.move(0, 0), 1);
        }
        Due.is("18: y too far", x.meets(0, 0), 6000);
    }

    private static void housesAndEaves() {
        FloatTowers x = new FloatTowers();
        x.car(4, 2, 10, 10);
        x.storey(0, 9, 4, 2);
        x.storey(0, 20, 3, 2);
        x.feet(1);
        // The upper storey is 2 feet larger, the lower one none (9 tenths are cut).
        x.house(20, -50, 30, 50, 9, 20, 3);
        x.stand(0, 15, 0, 0);
        Due.is("18: up to the lower storey's rim", x.meets(0, 0), 0);
        x.move(0, 0);
        Due.is("18: the lower storey", x.meets(0, 0), 1000);
        Due.is("19: it may not", x.move(0, 0), -3);
        Due.is("18: as it stands", x.meets(0, 10), 0);
        // A house as high as the upper storey's foot is under it; with eaves from its HEIGHT on it is over it.
        x.house(-30, -50, -20, 50, 5, 19, 3);
        x.stand(0, -11, 0, 0);
        Due.is("18: eaves from 19 to 10, and the foot 9: up to the rim", x.meets(0, 1), 0);
        x.move(0, 1);
        Due.is("18: the eaves of house 1", x.meets(0, 1), 2001);
        Due.is("4: cut", x.cut(1, 2), 3);
        Due.is("18: cut back", x.meets(0, 1), 0);
        x.house(-30, 100, -20, 150, 4, 1, 9);
        FloatTowers y = new FloatTowers();
        y.car(4, 2, 10, 0);
        y.storey(0, 8, 1, 1);
        y.storey(0, 9, 9, 9);
        y.house(9, -5, 20, 5, 3, 8, 0);
        y.stand(0, 0, 0, 0);
        y.feet(1);
        Due.is("18: TOP and 5 is the upper foot, E the lower HEIGHT", y.meets(0, 0), 0);
        y.house(9, -5, 20, 5, 4, 9, 9);
        Due.is("18: E as high as HEIGHT", y.meets(0, 0), 0);
        y.house(9, -5, 20, 5, 4, 8, 0);
        Due.is("18: eaves without OUT are there", y.meets(0, 0), 2002);
        Due.is("18: rims together", y.meets(0, 10), 0);
        y.house(9, -5, 20, 5, 9, 9, 0);
        Due.is("18: a house goes ahead of eaves", y.meets(0, 0), 1003);
        y.house(-20, -5, -9, 5, 9, 9, 0);
        Due.is("18: the other side", y.meets(0, 1), 1004);
    }

    private static void wiresAndKerbs() {
        FloatTowers x = new FloatTowers();
        Due.is("18: no car", x.meets(0, 0), -2);
        x.car(4, 2, 10, 0);
        Due.is("18: move -1", x.meets(0, -1), -2);
        Due.is("18: move 11", x.meets(0, 11), -2);
        Due.is("18: stands nowhere", x.meets(0, 0), -3);
        x.storey(0, 8, 4, 2);
        x.storey(0, 12, 6, 2);
        x.stand(0, 0, 0, 0);
        x.feet(1);
        x.wire(6, -9, 7, 9, 8);
        Due.is("18: a wire as high as the foot", x.meets(0, 0), 0);
        x.wire(6, -9, 7, 9, 13);
        Due.is("18: a wire above the HEIGHT", x.meets(0, 0), 0);
        x.wire(6, -9, 7, 9, 12);
        Due.is("18: a wire as high as the HEIGHT", x.meets(0, 0), 3002);
        x.wire(6, -9, 7, 9, 9);
        Due.is("18: the least wire", x.meets(0, 0), 3002);
        x.down(2, true);
        Due.is("18: the next wire", x.meets(0, 0), 3003);
        x.down(3, true);
        Due.is("18: all are down", x.meets(0, 0), 0);
        x.kerb(4, 2, 9, 9);
        Due.is("18: along a kerb's rim", x.meets(0, 0), 0);
        x.kerb(4, -3, 9, 3);
        Due.is("18: as it stands, on the rim", x.meets(0, 10), 0);
        Due.is("18: kerb 1", x.meets(0, 0), 4001);
        Due.is("18: turned about wheel 3 wheel 0 comes to (308, -6)", x.meets(0, 9), 4001);
        Due.is("18: or to (180, 250)", x.meets(0, 5), 0);
        x.stand(0, 0, 100, 0);
        x.kerb(-1, 97, 1, 103);
        Due.is("18: a kerb under the middle alone", x.meets(0, 0), 0);
        x.wire(5, 90, 7, 110, 9);
        x.kerb(-4, 101, -2, 103);
        Due.is("18: a wire goes ahead of a kerb", x.meets(0, 0), 3004);
        x.down(4, true);
        Due.is("18: then the kerb", x.meets(0, 0), 4003);
        kerbRims();
    }

    /** The wheels come to (5, 2), (5, -2), (-3, 2), (-3, -2): each on a rim, and then in. */
    private static void kerbRims() {
        int[][] rims = {{5, 1, 6, 3}, {4, 1, 5, 3}, {4, 2, 6, 3}, {4, 1, 6, 2}, {-3, -3, -2, -1}, {-4, -3, -3, -1},
            {-4, -2, -2, -1}, {-4, -3, -2, -2}};
        int[][] ins = {{4, 1, 6, 3}, {4, -3, 6, -1}, {-4, 1, -2, 3}, {-4, -3, -2, -1}};
        for (int[] k : rims) {
            Due.is("18: on a rim " + k[0] + " " + k[1], kerbed(k).meets(0, 0), 0);
        }
        for (int[] k : ins) {
            Due.is("18: in a kerb " + k[0] + " " + k[1], kerbed(k).meets(0, 0), 4000);
        }
    }

    private static FloatTowers kerbed(int[] k) {
        FloatTowers x = new FloatTowers();
        x.car(4, 2, 10, 0);
        x.stand(0, 0, 0, 0);
        x.feet(1);
        x.kerb(k[0], k[1], k[2], k[3]);
        return x;
    }

    private static void otherCars() {
        FloatTowers x = new FloatTowers();
        for (int c = 0; c < 3; c++) {
            x.car(4, 2, 10, 0);
        }
        x.storey(0, 5, 4, 2);
        x.storey(1, 5, 2, 1);
        x.storey(1, 9, 6, 2);
        x.storey(2, 9, 4, 2);
        x.stand(0, 0, 0, 0);
        Due.is("13: into one another's storeys", x.stand(1, 5, 0, 0), -3);
        Due.is("13: above one another", x.stand(1, 8, 0, 0), 1);
        x.feet(2);
        Due.is("18: up to the lower one's rim", x.meets(1, 1), 0);
        x.feet(3);
        Due.is("18: the lower one", x.meets(1, 1), 5000);
        Due.is("18: the other way", x.meets(0, 0), 5001);
        Due.is("13: a third", x.stand(2, -8, 0, 0), 1);
        x.feet(1);
        Due.is("18: it is pushed to its rim", x.meets(2, 0), 5000);
        x.leave(0);
        Due.is("18: one that stands nowhere", x.meets(2, 0), 0);
        x.feet(3);
        x.move(2, 0);
        Due.is("18: up to the upper storey's rim", x.meets(2, 0), 0);
        x.feet(4);
        Due.is("18: the upper storey", x.meets(2, 0), 5001);
        FloatTowers y = new FloatTowers();
        y.car(4, 2, 10, 0);
        y.car(4, 2, 10, 0);
        y.storey(0, 5, 4, 2);
        y.stand(0, 0, 0, 0);
        Due.is("13: one without storeys touches none", y.stand(1, 0, 0, 0), 1);
        Due.is("18: nor is it touched", y.meets(0, 0), 0);
    }

    /** Rectangles at a slant: only their own ways part them. */
    private static void turnedOnes() {
        FloatTowers x = new FloatTowers();
        x.car(10, 2, 10, 0);
        x.storey(0, 9, 10, 1);
        x.stand(0, 0, 0, 3);
        // Along (56, 33): the corner (5, y) lies apart across, if 56 y - 33 x is at least 65 (feet).
        x.house(5, 5, 9, 9, 9, 9, 0);
        Due.is("18: corner (9, 5) is inside the strip", x.meets(0, 10), 1000);
        FloatTowers y = new FloatTowers();
        y.car(10, 2, 10, 0);
        y.storey(0, 9, 10, 1);
        y.stand(0, 0, 0, 3);
        y.house(-9, -3, 2, 7, 9, 9, 0);
        Due.is("18: a house over the middle", y.meets(0, 10), 1000);
        FloatTowers z = new FloatTowers();
        z.car(10, 2, 10, 0);
        z.storey(0, 9, 10, 1);
        z.stand(0, 0, 0, 3);
        z.house(-5, 3, 3, 9, 9, 9, 0);
        Due.is("18: (3, 3): 56 * 3 - 33 * 3 = 69, at least 65", z.meets(0, 10), 0);
        z.house(-5, 3, 4, 9, 9, 9, 0);
        Due.is("18: (4, 3): 56 * 3 - 33 * 4 = 36, less than 65", z.meets(0, 10), 1001);
        // Two cars, of which the second one's ways alone part them.
        z.car(10, 2, 10, 0);
        z.storey(1, 9, 10, 1);
        Due.is("13: beside", z.stand(1, 40, 20, 3), 1);
        Due.is("13: away", z.stand(1, 3, -4, 3), 1);
        Due.is("18: side by side", z.meets(1, 10), 0);
        Due.is("13: onto it", z.stand(1, 2, 0, 3), -3);
    }

    private static void moves() {
        FloatTowers x = new FloatTowers();
        Due.is("19: no car", x.move(0, 0), -2);
        x.car(6, 3, 10, 0);
        Due.is("19: move -1", x.move(0, -1), -2);
        Due.is("19: move 10", x.move(0, 10), -2);
        Due.is("19: stands nowhere", x.move(0, 0), -3);
        x.stand(0, 0, 0, 35);
        x.move(0, 0);
        Due.is("19: x", x.about(0, 5), 4 * 63);
        Due.is("19: y", x.about(0, 6), 4 * -16);
        x.move(0, 1);
        Due.is("19: back", x.about(0, 5), 0);
        for (int move = 2; move < 10; move++) {
            int w = (move - 2) % 4;
            int wheelX = x.wheel(0, w, 0);
            int wheelY = x.wheel(0, w, 1);
            int h = x.about(0, 7);
            Due.is("19: turned", x.move(0, move), 1);
            Due.is("19: x of the wheel stays", x.wheel(0, w, 0), wheelX);
            Due.is("19: y of the wheel stays", x.wheel(0, w, 1), wheelY);
            Due.is("19: heading", x.about(0, 7), (h + (move < 6 ? 1 : 35)) % 36);
        }
        Due.is("15: moves", x.about(0, 8), 10);
        x.house(-200, -200, 200, 200, 9, 9, 9);
        Due.is("19: no storeys, no house", x.move(0, 0), 1);
        x.storey(0, 1, 1, 1);
        Due.is("19: within a house", x.move(0, 0), -3);
        Due.is("15: moves", x.about(0, 8), 11);
        x.leave(0);
        Due.is("15: moves of one that left", x.about(0, 8), 11);
    }

    private static void way() {
        FloatTowers x = new FloatTowers();
        Due.is("20: no car", x.way(0, 0, 0, 1, 1, 0), -2);
        x.car(4, 2, 10, 0);
        Due.is("20: a wrong box", x.way(0, 1, 0, 1, 1, 0), -2);
        Due.is("20: heading 36", x.way(0, 0, 0, 1, 1, 36), -2);
        Due.is("20: stands nowhere", x.way(0, 0, 0, 1, 1, 0), -3);
        Due.is("22: none yet", x.seen(), 0);
        Due.is("21: none yet", x.step(0), -2);
        x.stand(0, 0, 0, 0);
        Due.is("20: wheels on the rim", x.way(0, -4, -2, 4, 2, 0), 0);
        Due.is("22: the first", x.seen(), 1);
        Due.is("21: of 0", x.step(0), -2);
        Due.is("20: one move", x.way(0, 0, -2, 8, 2, 0), 1);
        Due.is("21: it", x.step(0), 0);
        Due.is("22: two", x.seen(), 2);
        Due.is("20: back", x.way(0, -8, -2, 0, 2, 0), 1);
        Due.is("21: it", x.step(0), 1);
        Due.is("22: three", x.seen(), 3);
        Due.is("20: as it is", x.way(0, -4, -2, 4, 2, 0), 0);
        Due.is("21: of none", x.step(0), -2);
        Due.is("20: turned by 1 less", x.way(0, -50, -50, 50, 50, 35), 1);
        Due.is("21: the least", x.step(0), 6);
        Due.is("22: behind six more", x.seen(), 8);
        Due.is("20: drawn and turned", x.way(0, 7, -50, 50, 50, 1), 4);
        Due.is("21: first", x.step(0), 0);
        Due.is("21: -1", x.step(-1), -2);
        Due.is("21: 4", x.step(4), -2);
        int seen = x.seen();
        Due.is("20: BAD changes nothing", x.way(0, 0, 0, 0, 1, 0), -2);
        Due.is("22: as it was", x.seen(), seen);
        Due.is("20: too far", x.way(0, 480, 480, 500, 500, 0), -5);
        Due.is("22: all", x.seen(), 1500);
        Due.is("21: of the one that told", x.step(0), 0);
        x.car(2, 2, 2, 2);
        x.leave(0);
        Due.is("20: stands nowhere", x.way(0, -50, -50, 50, 50, 0), -3);
        Due.is("20: nor does that", x.way(1, -50, -50, 50, 50, 0), -3);
        Due.is("22: of one that stands", x.seen(), 1500);
        Due.is("15: no moves done", x.about(0, 8), 0);
    }

    /** A lane as broad as the car: it can't turn, so the standings are 25 with 12 moves ahead and back. */
    private static void corridor() {
        FloatTowers x = new FloatTowers();
        x.car(4, 2, 10, 0);
        x.storey(0, 9, 4, 2);
        x.house(-500, 2, 500, 20, 9, 9, 0);
        x.house(-500, -20, 500, -2, 9, 9, 0);
        x.stand(0, 0, 0, 0);
        Due.is("20: 12 moves", x.way(0, 44, -2, 52, 2, 0), 12);
        for (int i = 0; i < 12; i++) {
            Due.is("21: step " + i, x.step(i), 0);
        }
        Due.is("21: step 12", x.step(12), -2);
        Due.is("22: without the last one back", x.seen(), 24);
        Due.is("20: 12 back", x.way(0, -52, -2, -44, 2, 0), 12);
        Due.is("22: all", x.seen(), 25);
        Due.is("20: 13 moves", x.way(0, 48, -2, 56, 2, 0), -3);
        Due.is("22: all", x.seen(), 25);
        Due.is("21: the former", x.step(11), 1);
        Due.is("20: turned", x.way(0, -500, -500, 500, 500, 1), -3);
        x.house(10, -2, 11, 2, 9, 9, 0);
        Due.is("20: shut", x.way(0, 4, -2, 12, 2, 0), -3);
        Due.is("22: one ahead", x.seen(), 14);
    }
}
