/** Promises 2 to 10. */
public final class StreetsTest {
    private static final int[] C = {65, 63, 60, 56, 52, 39, 33, 25, 16, 0, -16, -25, -33, -39, -52, -56, -60, -63,
        -65, -63, -60, -56, -52, -39, -33, -25, -16, 0, 16, 25, 33, 39, 52, 56, 60, 63};
    private static final int[] S = {0, 16, 25, 33, 39, 52, 56, 60, 63, 65, 63, 60, 56, 52, 39, 33, 25, 16,
        0, -16, -25, -33, -39, -52, -56, -60, -63, -65, -63, -60, -56, -52, -39, -33, -25, -16};

    public static void main(String[] args) {
        turn();
        house();
        cut();
        kerbsAndWires();
        down();
        slopes();
        ground();
        Due.close("StreetsTest");
    }

    private static void turn() {
        FloatTowers x = new FloatTowers();
        for (int h = 0; h < 36; h++) {
            Due.is("2: turn(" + h + ", 0)", x.turn(h, 0), C[h]);
            Due.is("2: turn(" + h + ", 1)", x.turn(h, 1), S[h]);
        }
        Due.is("2: heading -1", x.turn(-1, 0), -1000);
        Due.is("2: heading 36", x.turn(36, 1), -1000);
        Due.is("2: what 2", x.turn(0, 2), -1000);
        Due.is("2: what -1", x.turn(0, -1), -1000);
    }

    /** The same wrong boxes, for whatever call takes a box ahead of numbers that may be. */
    private interface Boxed {
        int call(int x0, int y0, int x1, int y1);
    }

    private static void wrongBoxes(String name, Boxed it) {
        Due.is(name + " x0 -501", it.call(-501, 0, 1, 1), -2);
        Due.is(name + " y0 -501", it.call(0, -501, 1, 1), -2);
        Due.is(name + " x1 501", it.call(0, 0, 501, 1), -2);
        Due.is(name + " y1 501", it.call(0, 0, 1, 501), -2);
        Due.is(name + " x0 as x1", it.call(1, 0, 1, 1), -2);
        Due.is(name + " y0 as y1", it.call(0, 1, 1, 1), -2);
        Due.is(name + " x0 above x1", it.call(2, 0, 1, 1), -2);
        Due.is(name + " y0 above y1", it.call(0, 2, 1, 1), -2);
        Due.is(name + " widest", it.call(-500, -500, 500, 500), 0);
        Due.is(name + " again", it.call(-500, -500, -499, -499), 1);
    }

    private static void house() {
        FloatTowers x = new FloatTowers();
        Due.is("3: top 0", x.house(0, 0, 1, 1, 0, 1, 0), -2);
        Due.is("3: top 100", x.house(0, 0, 1, 1, 100, 1, 0), -2);
        Due.is("3: e 0", x.house(0, 0, 1, 1, 1, 0, 0), -2);
        Due.is("3: e 100", x.house(0, 0, 1, 1, 1, 100, 0), -2);
        Due.is("3: out -1", x.house(0, 0, 1, 1, 1, 1, -1), -2);
        Due.is("3: out 10", x.house(0, 0, 1, 1, 1, 1, 10), -2);
        wrongBoxes("3:", (a, b, c, d) -> x.house(a, b, c, d, 1, 99, 9));
        for (int n = 2; n < 20; n++) {
            Due.is("3: house " + n, x.house(n, n, n + 1, n + 1, 99, 1, 0), n);
        }
        Due.is("3: one too many", x.house(0, 0, 1, 1, 1, 1, 1), -4);
        Due.is("3: BAD goes ahead of FULL", x.house(0, 0, 0, 1, 1, 1, 1), -2);
        Due.is("3: count", x.count(0), 20);
    }

    private static void cut() {
        FloatTowers x = new FloatTowers();
        x.house(0, 0, 1, 1, 9, 9, 5);
        Due.is("4: no such house", x.cut(1, 0), -2);
        Due.is("4: house -1", x.cut(-1, 0), -2);
        Due.is("4: more than it was", x.cut(0, 6), -2);
        Due.is("4: below 0", x.cut(0, -1), -2);
        Due.is("4: as it was", x.cut(0, 5), 5);
        Due.is("4: less", x.cut(0, 2), 5);
        Due.is("4: what it was then", x.cut(0, 3), -2);
        Due.is("4: away", x.cut(0, 0), 2);
    }

    private static void kerbsAndWires() {
        FloatTowers x = new FloatTowers();
        wrongBoxes("5:", x::kerb);
        Due.is("6: height 0", x.wire(0, 0, 1, 1, 0), -2);
        Due.is("6: height 100", x.wire(0, 0, 1, 1, 100), -2);
        wrongBoxes("6:", (a, b, c, d) -> x.wire(a, b, c, d, 99));
        for (int n = 2; n < 10; n++) {
            Due.is("5: kerb " + n, x.kerb(0, 0, 1, 1), n);
            Due.is("6: wire " + n, x.wire(0, 0, 1, 1, 1), n);
        }
        Due.is("5: full", x.kerb(0, 0, 1, 1), -4);
        Due.is("6: full", x.wire(0, 0, 1, 1, 1), -4);
        Due.is("5: BAD ahead of FULL", x.kerb(0, 0, 0, 1), -2);
        Due.is("6: BAD ahead of FULL", x.wire(0, 0, 1, 1, 0), -2);
        Due.is("5: count", x.count(1), 10);
        Due.is("6: count", x.count(2), 10);
    }

    private static void down() {
        FloatTowers x = new FloatTowers();
        Due.is("7: none there", x.down(0, true), -2);
        x.wire(0, 0, 1, 1, 9);
        Due.is("7: hangs already", x.down(0, false), 0);
        Due.is("7: down", x.down(0, true), 1);
        Due.is("7: count", x.count(2), 0);
        Due.is("7: down already", x.down(0, true), 0);
        Due.is("7: up", x.down(0, false), 1);
        Due.is("7: -1", x.down(-1, true), -2);
        Due.is("7: 1", x.down(1, true), -2);
        Due.is("7: count", x.count(2), 1);
    }

    private static void slopes() {
        FloatTowers x = new FloatTowers();
        Due.is("8: rise x 201", x.slope(0, 0, 1, 1, 201, 0, false), -2);
        Due.is("8: rise x -201", x.slope(0, 0, 1, 1, -201, 0, false), -2);
        Due.is("8: rise y 201", x.slope(0, 0, 1, 1, 0, 201, false), -2);
        Due.is("8: rise y -201", x.slope(0, 0, 1, 1, 0, -201, false), -2);
        Due.is("9: nothing to wet", x.rain(true), 0);
        wrongBoxes("8:", (a, b, c, d) -> x.slope(a, b, c, d, -200, 200, false));
        Due.is("8: wet", x.slope(0, 0, 1, 1, 0, 0, true), 2);
        Due.is("9: two dry ones", x.rain(true), 2);
        Due.is("9: none", x.rain(true), 0);
        Due.is("9: all dry", x.rain(false), 3);
        for (int n = 3; n < 10; n++) {
            Due.is("8: slope " + n, x.slope(0, 0, 1, 1, 0, 0, n % 2 == 0), n);
        }
        Due.is("8: full", x.slope(0, 0, 1, 1, 0, 0, true), -4);
        Due.is("8: BAD ahead of FULL", x.slope(1, 0, 1, 1, 0, 0, true), -2);
        Due.is("9: those that are wet", x.rain(false), 3);
    }

    private static void ground() {
        FloatTowers x = new FloatTowers();
        Due.is("10: level", x.ground(0, 0, 0), -1);
        Due.is("10: no rise", x.ground(0, 0, 1), 0);
        Due.is("10: nothing wet", x.ground(0, 0, 3), 0);
        x.slope(0, 0, 10, 10, 7, -8, false);
        x.slope(5, 5, 20, 20, 9, 11, true);
        Due.is("10: the least", x.ground(400, 400, 0), 0);
        Due.is("10: its rise x", x.ground(400, 400, 1), 7);
        Due.is("10: its rise y", x.ground(400, 400, 2), -8);
        Due.is("10: dry", x.ground(400, 400, 3), 0);
        Due.is("10: on the rim", x.ground(650, 650, 0), 0);
        Due.is("10: on the other rim", x.ground(0, 0, 0), 0);
        Due.is("10: off the rim", x.ground(651, 650, 0), 1);
        Due.is("10: second", x.ground(1300, 1300, 2), 11);
        Due.is("10: wet", x.ground(1300, 1300, 3), 1);
        Due.is("10: beyond", x.ground(1300, 1301, 0), -1);
        Due.is("10: below", x.ground(-1, 0, 0), -1);
        Due.is("10: x as far as may be", x.ground(40000, -40000, 0), -1);
        Due.is("10: x too far", x.ground(40001, 0, 0), -1000);
        Due.is("10: x too low", x.ground(-40001, 0, 0), -1000);
        Due.is("10: y too far", x.ground(0, 40001, 0), -1000);
        Due.is("10: y too low", x.ground(0, -40001, 0), -1000);
        Due.is("10: what 4", x.ground(0, 0, 4), -1000);
        Due.is("10: what -1", x.ground(0, 0, -1), -1000);
    }
}
