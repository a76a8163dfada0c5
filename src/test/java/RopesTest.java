/** Promises 23 to 29. */
public final class RopesTest {
    private static final int LEAST = Integer.MIN_VALUE;

    public static void main(String[] args) {
        refusals();
        numbers();
        bites();
        newRope();
        pull();
        need();
        woods();
        Due.close("RopesTest");
    }

    private static void refusals() {
        FloatTowers x = new FloatTowers();
        Due.is("23: no car", x.rope(0, 0, 0, 1, 0), -2);
        Due.is("25: no car", x.tight(0, 0), -2);
        Due.is("26: no car", x.pull(0), LEAST);
        Due.is("27: no car", x.need(0), LEAST);
        Due.is("28: no car", x.may(0), -2);
        Due.is("29: no car", x.woods(0), -2);
        x.car(4, 2, 10, 0);
        Due.is("23: rope -1", x.rope(0, -1, 0, 1, 0), -2);
        Due.is("23: rope 4", x.rope(0, 4, 0, 1, 0), -2);
        Due.is("23: hands -1", x.rope(0, 0, -1, 1, 0), -2);
        Due.is("23: hands 301", x.rope(0, 0, 301, 1, 0), -2);
        Due.is("23: length 0", x.rope(0, 0, 0, 0, 0), -2);
        Due.is("23: length 61", x.rope(0, 0, 0, 61, 0), -2);
        Due.is("23: bend -10", x.rope(0, 0, 0, 1, -10), -2);
        Due.is("23: bend 10", x.rope(0, 0, 0, 1, 10), -2);
        Due.is("23: most", x.rope(0, 3, 300, 60, 9), 1);
        Due.is("23: least", x.rope(0, 0, 0, 1, -9), 1);
        Due.is("25: rope 4", x.tight(0, 4), -2);
        Due.is("25: rope -1", x.tight(0, -1), -2);
        Due.is("25: stands nowhere", x.tight(0, 0), -3);
        Due.is("26: stands nowhere", x.pull(0), LEAST);
        Due.is("27: stands nowhere", x.need(0), LEAST);
        Due.is("28: stands nowhere", x.may(0), -3);
        Due.is("29: stands nowhere", x.woods(0), -3);
    }

    private static void numbers() {
        FloatTowers x = new FloatTowers();
        Due.is("24: FORCE 0", x.set(0, 0), -2);
        Due.is("24: FORCE 10", x.set(0, 10), -2);
        Due.is("24: FORCE", x.set(0, 9), 3);
        Due.is("24: FORCE", x.set(0, 1), 9);
        Due.is("24: ROLL -1", x.set(1, -1), -2);
        Due.is("24: ROLL 101", x.set(1, 101), -2);
        Due.is("24: ROLL", x.set(1, 100), 20);
        Due.is("24: ROLL", x.set(1, 0), 100);
        Due.is("24: GRIP 0", x.set(2, 0), -2);
        Due.is("24: GRIP 100", x.set(2, 100), -2);
        Due.is("24: GRIP", x.set(2, 99), 12);
        Due.is("24: GRIP", x.set(2, 1), 99);
        Due.is("24: what 3", x.set(3, 1), -2);
        Due.is("24: what -1", x.set(-1, 1), -2);
    }

    private static void bites() {
        FloatTowers x = new FloatTowers();
        x.car(4, 2, 10, 0);
        x.stand(0, 0, 0, 0);
        x.rope(0, 0, 10, 6, 0);
        x.rope(0, 1, 9, 6, 0);
        x.rope(0, 2, 10, 6, 0);
        x.house(10, 0, 20, 9, 1, 1, 0);
        Due.is("25: up to the rim", x.tight(0, 0), 0);
        Due.is("25: beside, slack", x.tight(0, 1), 1);
        x.rope(0, 0, 10, 7, 0);
        Due.is("25: into house 0", x.tight(0, 0), 100);
        x.house(-20, -1, -9, 2, 1, 1, 0);
        Due.is("25: along a rim", x.tight(0, 2), 0);
        x.rope(0, 2, 10, 6, 1);
        Due.is("25: at the back, bent away from y", x.tight(0, 2), 101);
        x.rope(0, 2, 10, 6, -1);
        Due.is("25: bent toward y", x.tight(0, 2), 0);
        x.rope(0, 3, 0, 20, 0);
        x.house(-22, -4, -10, 0, 1, 1, 0);
        Due.is("25: slack or not", x.tight(0, 3), 102);
        x.house(-30, -9, 4, 30, 1, 1, 0);
        Due.is("25: the least", x.tight(0, 3), 102);
        Due.is("25: where the wheel is in a house", x.tight(0, 2), 103);
        Due.is("25: a wheel on the rim, and away", x.tight(0, 1), 1);
        // Past a corner at a slant: from (4, -2) along (56, -33).
        x.rope(0, 1, 10, 10, -3);
        x.house(4, -20, 5, -3, 1, 1, 0);
        Due.is("25: the corner (5, -3) lies beside: 56 less than 65", x.tight(0, 1), 0);
        x.house(6, -20, 8, -3, 1, 1, 0);
        Due.is("25: through (8, -3)", x.tight(0, 1), 105);
    }

    /** At first a rope is 20 feet long, straight ahead, with no hands. */
    private static void newRope() {
        FloatTowers x = new FloatTowers();
        x.car(4, 2, 10, 0);
        x.stand(0, 0, 0, 0);
        x.house(24, -9, 30, 9, 1, 1, 0);
        Due.is("23: 20 feet long", x.tight(0, 0), 1);
        x.house(23, -9, 30, -1, 1, 1, 0);
        Due.is("23: more than 19", x.tight(0, 1), 101);
        x.house(-30, 1, -23, 9, 1, 1, 0);
        Due.is("23: back", x.tight(0, 2), 102);
        Due.is("23: nobody at it", x.tight(0, 3), 1);
    }

    private static void pull() {
        FloatTowers x = new FloatTowers();
        x.car(4, 2, 10, 0);
        x.stand(0, 0, 0, 5);
        Due.is("26: none", x.pull(0), 0);
        x.rope(0, 0, 10, 1, 1);
        Due.is("26: 30 * 63 / 65, cut", x.pull(0), 29);
        x.rope(0, 1, 9, 1, 0);
        Due.is("26: a slack one", x.pull(0), 29);
        x.rope(0, 1, 100, 1, -9);
        Due.is("26: one across", x.pull(0), 29);
        x.rope(0, 2, 11, 1, 1);
        Due.is("26: 33 * 63 / 65 back, cut", x.pull(0), -2);
        x.slope(-9, -9, 9, 9, 0, 0, true);
        Due.is("26: 29 * 3 / 4 is 21, 31 * 3 / 4 is 23", x.pull(0), -2);
        x.rope(0, 2, 0, 1, 0);
        Due.is("26: wet", x.pull(0), 21);
        x.rope(0, 0, 0, 1, 0);
        x.rope(0, 3, 12, 1, 2);
        Due.is("26: 36 * 60 / 65 is 33, wet 24", x.pull(0), -24);
        x.rain(false);
        Due.is("26: dry", x.pull(0), -33);
        x.rope(0, 0, 300, 20, 0);
        Due.is("26: forward", x.pull(0), 900 - 33);
        x.house(5, 5, 9, 20, 1, 1, 0);
        Due.is("25: it bites", x.tight(0, 0), 100);
        Due.is("26: it bites", x.pull(0), -33);
    }

    private static void need() {
        FloatTowers x = new FloatTowers();
        x.car(4, 2, 33, 0);
        x.stand(0, 0, 0, 0);
        Due.is("27: 33 * 20 / 10", x.need(0), 66);
        x.set(1, 13);
        Due.is("27: 33 * 13 / 10, up", x.need(0), 43);
        x.slope(-9, -9, 9, 9, -33, 8, false);
        Due.is("27: 33 * -20 / 10", x.need(0), -66);
        x.stand(0, 0, 0, 1);
        // (-33 * 63 + 8 * 16) / 65 = -30.01, down -31; 33 * -18 / 10 = -59.4, up -59.
        Due.is("27: down, then up", x.need(0), -59);
        x.stand(0, 0, 0, 18);
        Due.is("27: the other way", x.need(0), 152);
        x.rope(0, 0, 50, 1, 0);
        Due.is("26: 150", x.pull(0), 150);
        Due.is("28: less", x.may(0), 0);
        x.rope(0, 0, 51, 1, 0);
        Due.is("28: enough", x.may(0), 1);
        x.set(0, 4);
        x.rope(0, 0, 38, 1, 0);
        Due.is("28: just enough", x.may(0), 1);
        x.stand(0, 0, 0, 1);
        Due.is("28: downhill", x.may(0), 1);
        x.rope(0, 0, 0, 1, 0);
        Due.is("28: nobody pulls", x.may(0), 0);
        x.set(0, 1);
        x.rope(0, 0, 10, 1, 9);
        x.rope(0, 1, 10, 1, 8);
        x.rope(0, 2, 10, 1, 9);
        Due.is("26: 10 * 16 / 65", x.pull(0), 2);
        x.rope(0, 3, 10, 1, 8);
        Due.is("26: as much back", x.pull(0), 0);
        Due.is("28: 0 isn't above 0", x.may(0), 0);
        x.rope(0, 3, 0, 1, 8);
        x.rope(0, 2, 10, 1, 8);
        x.rope(0, 0, 10, 1, 8);
        Due.is("26: 2 and 2 less 2", x.pull(0), 2);
        Due.is("28: above 0", x.may(0), 1);
        x.rain(true);
        Due.is("26: three times 2 * 3 / 4 is 1, one of them back", x.pull(0), 1);
        Due.is("28: 1 is above 0", x.may(0), 1);
    }

    private static void woods() {
        FloatTowers x = new FloatTowers();
        x.car(4, 2, 100, 0);
        x.slope(-9, -9, 9, 9, -32, 0, false);
        x.stand(0, 0, 0, 18);
        Due.is("29: uphill", x.woods(0), 0);
        x.stand(0, 0, 0, 0);
        Due.is("27: need", x.need(0), -120);
        Due.is("29: 10 of 12", x.woods(0), 10);
        x.set(2, 13);
        Due.is("29: 10 of 13", x.woods(0), 10);
        x.set(2, 11);
        Due.is("29: 11 of 11", x.woods(0), 11);
        x.set(2, 6);
        Due.is("29: 20 of 6", x.woods(0), 20);
        x.set(2, 5);
        Due.is("29: 20 are not enough", x.woods(0), -1);
        x.rope(0, 2, 20, 1, 9);
        x.rope(0, 3, 10, 1, 5);
        Due.is("26: 30 * 39 / 65", x.pull(0), -18);
        Due.is("29: 102 are left, 21 would do", x.woods(0), -1);
        x.rope(0, 2, 10, 1, 9);
        x.rope(0, 3, 0, 1, 0);
        x.rain(true);
        x.set(2, 13);
        Due.is("29: wet, 19 * 13 / 2 = 123, 18: 117", x.woods(0), 19);
        x.set(2, 12);
        Due.is("29: wet, 20 * 6", x.woods(0), 20);
        x.rope(0, 0, 300, 1, 0);
        Due.is("29: who pulls forward doesn't hold", x.woods(0), 20);
        x.rope(0, 0, 0, 1, 0);
        x.rope(0, 2, 20, 1, 0);
        Due.is("26: wet 45", x.pull(0), -45);
        Due.is("29: 75 are left: 13 * 6 = 78", x.woods(0), 13);
        x.rope(0, 3, 40, 1, 0);
        Due.is("29: held", x.woods(0), 0);
    }
}
