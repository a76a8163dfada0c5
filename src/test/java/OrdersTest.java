/** Promises 45 to 48. */
public final class OrdersTest {
    public static void main(String[] args) {
        typing();
        faults();
        performing();
        Due.close("OrdersTest");
    }

    private static void write(FloatTowers x, String text) {
        x.tear();
        for (int i = 0; i < text.length(); i++) {
            x.type(text.charAt(i));
        }
    }

    private static void typing() {
        FloatTowers x = new FloatTowers();
        Due.is("46: empty", x.tear(), 0);
        Due.is("45: -1", x.type(-1), -2);
        Due.is("45: 256", x.type(256), -2);
        for (int n = 1; n <= 80; n++) {
            Due.is("45: byte " + n, x.type(n % 2 == 0 ? 0 : 255), n);
        }
        Due.is("45: full", x.type(0), -4);
        Due.is("45: BAD ahead of FULL", x.type(256), -2);
        Due.is("55: bytes", x.count(8), 80);
        Due.is("46: all", x.tear(), 80);
        Due.is("46: none", x.tear(), 0);
        Due.is("55: bytes", x.count(8), 0);
    }

    private static void fault(String text, int due) {
        FloatTowers x = new FloatTowers();
        write(x, text);
        Due.is("47: fault() of " + text, x.fault(), due);
        x.car(2, 2, 1, 0);
        x.stand(0, 0, 0, 0);
        if (due != -1) {
            Due.is("48: perform() of " + text, x.perform(0), -3);
            Due.is("48: no move of " + text, x.about(0, 8), 0);
        }
    }

    private static void faults() {
        fault("", 0);
        fault("d1", -1);
        fault("d40", -1);
        fault("d01", -1);
        fault("b40", -1);
        fault("l0", -1);
        fault("l00", -1);
        fault("r03", -1);
        fault("r3", -1);
        fault("w0", -1);
        fault("w09", -1);
        fault("f1", -1);
        fault("f20;d1;b1;l1;r1;w1", -1);
        fault("d0", 1);
        fault("d00", 1);
        fault("d41", 1);
        fault("b0", 1);
        fault("b99", 1);
        fault("l4", 1);
        fault("l10", 1);
        fault("r4", 1);
        fault("w10", 1);
        fault("f0", 1);
        fault("f21", 1);
        fault("d", 1);
        fault("d;", 1);
        fault("dd", 1);
        fault("d123", 3);
        fault("d991", 1);
        fault("l012", 3);
        fault("d1;", 3);
        fault("d12;", 4);
        fault(";d1", 0);
        fault("d1;;d1", 3);
        fault("d1 ;d1", 2);
        fault(" d1", 0);
        fault("D1", 0);
        fault("x", 0);
        fault("1", 0);
        fault("d1;x1", 3);
        fault("d1;f21", 4);
        fault("d1;l", 4);
        fault("d1d1", 2);
        fault("d-1", 1);
        fault("d1;b2;f3;l4", 10);
        fault("d1\u00ff", 2);
        fault("d1;".repeat(26) + "d1", -1);
        fault("d1;".repeat(26) + "dd", 79);
        fault("d10;" + "d1;".repeat(25) + "d", 80);
    }

    private static void performing() {
        FloatTowers x = new FloatTowers();
        Due.is("48: no car", x.perform(0), -2);
        x.car(4, 2, 10, 0);
        x.storey(0, 9, 4, 2);
        Due.is("48: stands nowhere, and a FAULT", x.perform(0), -3);
        write(x, "d3;b1;f2;d1;l0;r0");
        Due.is("48: stands nowhere", x.perform(0), -3);
        x.stand(0, 0, 0, 0);
        Due.is("48: all", x.perform(0), 7);
        Due.is("15: 12 - 4 + 2 feet", x.about(0, 5), 650);
        Due.is("55: F", x.count(12), 2);
        Due.is("15: moves", x.about(0, 8), 7);
        write(x, "l2");
        int wheelX = x.wheel(0, 2, 0);
        Due.is("48: turned by 1 more", x.perform(0), 1);
        Due.is("15: heading", x.about(0, 7), 1);
        Due.is("16: wheel 2 stays", x.wheel(0, 2, 0), wheelX);
        write(x, "r3;r1");
        Due.is("48: turned by 1 less", x.perform(0), 2);
        Due.is("15: heading", x.about(0, 7), 35);
        FloatTowers y = new FloatTowers();
        y.car(4, 2, 10, 0);
        y.storey(0, 9, 4, 2);
        y.stand(0, 0, 0, 0);
        y.wire(13, -9, 14, 9, 5);
        write(y, "d9;f1;b1");
        Due.is("48: up to the wire", y.perform(0), 2);
        Due.is("15: those stay done", y.about(0, 5), 520);
        Due.is("55: F is as it was", y.count(12), 4);
        write(y, "w0;f5;d2;w1;f9;d1");
        Due.is("48: up to the wire that isn't there", y.perform(0), 2);
        Due.is("55: the wire is down", y.count(2), 0);
        Due.is("55: F", y.count(12), 5);
        Due.is("15: x", y.about(0, 5), 18 * 65);
        write(y, "w0;b1");
        Due.is("48: a wire that is down already", y.perform(0), 1);
        write(y, "w9");
        Due.is("48: no moves", y.perform(0), 0);
        write(y, "f6");
        Due.is("48: no moves", y.perform(0), 0);
        Due.is("55: F", y.count(12), 6);
        Due.is("55: the text stays", y.count(8), 2);
        Due.is("48: car 1", y.perform(1), -2);
        Due.is("48: car -1", y.perform(-1), -2);
    }
}
