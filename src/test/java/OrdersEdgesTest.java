/** The sentences of promises 45 to 48, and of the terms for them, that name a boundary: one case for each. */
public final class OrdersEdgesTest {
    private static final String CAR = "car(4,2,10,0)=0 storey(0,9,4,2)=1 stand(0,0,0,0)=1 ";

    public static void main(String[] args) {
        type();
        tear();
        letters();
        numbers();
        figures();
        parts();
        fullText();
        refusals();
        moves();
        wiresAndFeet();
        tillOneCannot();
        Edge.close("OrdersEdgesTest", 45, 48);
    }

    private static String text(String t) {
        return "write(" + t + ")=" + t.length() + " ";
    }

    private static void fault(String sentence, String t, String due) {
        Edge.of(47, sentence, text(t) + "fault()=" + due);
    }

    private static void type() {
        Edge.of(45, "a byte of 0 to 255", "type(-1)=BAD type(0)=1 type(255)=2 type(256)=BAD type(MOST)=BAD "
            + "type(LEAST)=BAD count(8)=2");
        Edge.of(45, "up to 80 bytes", "80*type(100)={i+1} type(100)=FULL count(8)=80");
        Edge.of(45, "BAD goes ahead of FULL", "80*type(100)={i+1} type(256)=BAD type(-1)=BAD");
        Edge.of(45, "it comes behind", text("d1") + "type(59)=3 type(98)=4 type(50)=5 fault()=NONE");
    }

    private static void tear() {
        Edge.of(46, "empty already", "tear()=0 tear()=0");
        Edge.of(46, "how many bytes they had", text("d1;b2") + "tear()=5 tear()=0 count(8)=0 fault()=0");
        Edge.of(46, "80, and room again", "80*type(100)={i+1} tear()=80 80*type(100)={i+1} type(100)=FULL");
        Edge.of(46, "none of the former text is left", text("d1;b2;f3") + "tear()=8 " + text("d4") + "fault()=NONE "
            + "" + CAR
            + "perform(0)=4 count(12)=4");
    }

    private static void letters() {
        fault("an empty text has its FAULT at 0", "", "0");
        for (String letter : "d b l r w f".split(" ")) {
            fault("a letter", letter + "1", "NONE");
        }
        for (String letter : "a c e g k m q s v x D B L R W F ; 0 ` [".split(" ")) {
            fault("a byte that is no letter of a part", letter + "1", "0");
            fault("the same behind a part", "d1;" + letter + "1", "3");
        }
        Edge.of(47, "the bytes 0 and 255", "type(0)=1 fault()=0 tear()=1 type(255)=1 fault()=0 tear()=1 type(228)=1 "
            + "fault()=0");
    }

    private static void numbers() {
        for (String letter : "d b".split(" ")) {
            fault("1 to 40", letter + "0", "1");
            fault("1 to 40", letter + "00", "1");
            fault("1 to 40", letter + "1", "NONE");
            fault("1 to 40", letter + "01", "NONE");
            fault("1 to 40", letter + "40", "NONE");
            fault("1 to 40", letter + "41", "1");
            fault("1 to 40", letter + "99", "1");
        }
        for (String letter : "l r".split(" ")) {
            fault("WHEEL 0 to 3", letter + "0", "NONE");
            fault("WHEEL 0 to 3", letter + "00", "NONE");
            fault("WHEEL 0 to 3", letter + "3", "NONE");
            fault("WHEEL 0 to 3", letter + "03", "NONE");
            fault("WHEEL 0 to 3", letter + "4", "1");
            fault("WHEEL 0 to 3", letter + "10", "1");
        }
        fault("WIRE 0 to 9", "w0", "NONE");
        fault("WIRE 0 to 9, whether it is there or not", "w9", "NONE");
        fault("WIRE 0 to 9", "w09", "NONE");
        fault("WIRE 0 to 9", "w10", "1");
        fault("F 1 to 20", "f0", "1");
        fault("F 1 to 20", "f1", "NONE");
        fault("F 1 to 20", "f20", "NONE");
        fault("F 1 to 20", "f21", "1");
        fault("the first figure of a number that may not be, behind parts", "d1;b12;f21;d1", "8");
        fault("the first FAULT of several", "d1;l4;d0", "4");
    }

    private static void figures() {
        fault("one figure at least: the text ends", "d", "1");
        fault("one figure at least: the next part", "d;d1", "1");
        fault("one figure at least: another letter", "dd1", "1");
        fault("no sign", "d-1", "1");
        fault("no sign", "d+1", "1");
        fault("no space", "d 1", "1");
        fault("the byte ahead of 0", "d/1", "1");
        fault("the byte behind 9", "d:1", "1");
        fault("the byte ahead of 0, as second figure", "d1/", "2");
        fault("the byte behind 9, as second figure", "d1:", "2");
        fault("figures are 0 to 9", "d10;d29;d38", "NONE");
        fault("figures are 0 to 9", "d4;d5;d6;d7;d8;d9", "NONE");
        fault("no three figures", "d123", "3");
        fault("no three figures, though 001 is 1", "d001", "1");
        fault("no three figures, though 010 is 10", "d010", "3");
        fault("no three figures, behind parts", "b1;l000", "6");
        fault("a number of two figures that may not be goes ahead of a third figure", "d991", "1");
    }

    private static void parts() {
        fault("parts with ; between them", "d1;b2;l3;r0;w9;f20", "NONE");
        fault("no ; at the end", "d1;", "3");
        fault("no ; at the end, behind two figures", "d12;", "4");
        fault("no ; ahead", ";d1", "0");
        fault("; alone", ";", "0");
        fault("no two of them", "d1;;b2", "3");
        fault("none left out", "d1b2", "2");
        fault("none left out, behind two figures", "d12b2", "3");
        fault("no space", "d1; b2", "3");
        fault("no space", "d1 ;b2", "2");
        fault("the byte behind ;", "d1<b2", "2");
        fault("where the text ends behind a letter", "d1;b", "4");
    }

    private static void fullText() {
        fault("80 bytes", "d10;" + "d1;".repeat(24) + "d01x", "79");
        fault("80 bytes without a FAULT", "d1;".repeat(26) + "d1", "NONE");
        fault("80 bytes that end behind a letter", "d10;" + "d1;".repeat(25) + "d", "80");
        fault("80 bytes that end behind ;", "d10;d10;" + "d1;".repeat(24), "80");
        Edge.of(48, "80 bytes are done", CAR + "feet(1)=4 " + text("d1;".repeat(26) + "d1") + "perform(0)=27 "
            + "about(0,5)=1755");
        Edge.of(48, "40 at most in a part", CAR + "feet(1)=4 " + text("d40;b40;d40") + "perform(0)=120 "
            + "about(0,5)=2600 about(0,8)=120");
    }

    private static void refusals() {
        Edge.of(48, "no such CAR", text("d1") + "perform(0)=BAD " + CAR + "perform(1)=BAD perform(-1)=BAD "
            + "perform(MOST)=BAD perform(LEAST)=BAD about(0,8)=0");
        Edge.of(48, "BAD goes ahead of NOT", "perform(0)=BAD " + text("d0") + "perform(0)=BAD");
        Edge.of(48, "an empty text is a FAULT", CAR + "perform(0)=NOT");
        Edge.of(48, "a FAULT at the end: nothing is done", CAR + "wire(50,50,60,60,9)=0 " + text("d1;w0;f9;l4")
            + "perform(0)=NOT about(0,8)=0 about(0,5)=0 count(2)=1 count(12)=4");
        Edge.of(48, "it STANDS nowhere", "car(2,2,1,0)=0 wire(50,50,60,60,9)=0 " + text("w0;f9;d1") + "perform(0)=NOT "
            + "count(2)=1 count(12)=4 about(0,8)=0");
    }

    private static void moves() {
        Edge.of(48, "d n: DRAWN n times", CAR + text("d3") + "perform(0)=3 about(0,5)=780 about(0,8)=3");
        Edge.of(48, "b n: BACK n times", CAR + text("b3") + "perform(0)=3 about(0,5)=-780");
        Edge.of(48, "a number of two figures", CAR + text("d12") + "perform(0)=12 about(0,5)=3120");
        for (int w = 0; w < 4; w++) {
            String stays = "car(6,3,1,0)=0 stand(0,0,0,0)=1 " + text("l" + w) + "perform(0)=1 about(0,7)=1 ";
            String x = w < 2 ? "390" : "-390";
            String y = w % 2 == 0 ? "195" : "-195";
            Edge.of(48, "l n: turned by 1 more about WHEEL n, once", stays + "wheel(0," + w + ",0)=" + x + " "
            + "wheel(0," + w
                + ",1)=" + y);
            Edge.of(48, "r n: by 1 less, once", stays.replace("write(l", "write(r")
                .replace("about(0,7)=1 ", "about(0,7)=35 ") + "wheel(0," + w + ",0)=" + x + " "
            + "wheel(0," + w + ",1)=" + y);
        }
        Edge.of(48, "the text stays, and may be DONE again", CAR + text("d1") + "perform(0)=1 perform(0)=1 "
            + "about(0,8)=2 count(8)=2");
        Edge.of(48, "by one CAR alone", CAR + "car(2,2,1,0)=1 stand(1,0,50,0)=1 " + text("d2") + "perform(1)=2 "
            + "about(0,5)=0 about(1,5)=520");
    }

    private static void wiresAndFeet() {
        Edge.of(48, "WIRES and F do not count", CAR + "wire(50,50,60,60,9)=0 " + text("w0;f20") + "perform(0)=0 "
            + "count(2)=0 count(12)=20 about(0,8)=0");
        Edge.of(48, "f n: F becomes n for what comes behind", CAR + text("d1;f1;d1;f20;b1") + "perform(0)=3 "
            + "about(0,5)=-975 count(12)=20");
        Edge.of(48, "w n: a WIRE is taken DOWN, so that the way is free", CAR + "wire(5,-9,6,9,5)=0 " + text("d1;w0")
            + "perform(0)=0 count(2)=1 tear()=5 " + text("w0;d1") + "perform(0)=1 count(2)=0");
        Edge.of(48, "w n: one that is not there: this cannot be done", CAR + "wire(50,50,60,60,9)=0 " + text("d1;w1;d1")
            + "perform(0)=1 about(0,8)=1 count(2)=1");
        Edge.of(48, "w n: the last of 10", CAR + "10*wire(50,50,60,60,9)={i} " + text("w9;d1") + "perform(0)=1 "
            + "count(2)=9 down(9,true)=0");
        Edge.of(48, "w n: one that is DOWN already is there", CAR + "wire(50,50,60,60,9)=0 down(0,true)=1 "
            + "" + text("w0;d1")
            + "perform(0)=1 count(2)=0");
    }

    private static void tillOneCannot() {
        String wall = CAR + "house(13,-9,20,9,9,9,0)=0 ";
        Edge.of(48, "MOVE by MOVE, till one cannot be done", wall + text("d5") + "perform(0)=2 about(0,5)=520 "
            + "about(0,8)=2");
        Edge.of(48, "no later part is done", wall + "wire(50,50,60,60,9)=0 " + text("d3;b1;w0;f9") + "perform(0)=2 "
            + "about(0,5)=520 count(2)=1 count(12)=4");
        Edge.of(48, "those that were done stay done, WIRES and F too", wall + "wire(50,50,60,60,9)=0 "
            + "" + text("w0;f5;d9")
            + "perform(0)=1 about(0,5)=325 count(2)=0 count(12)=5");
        Edge.of(48, "none was done", CAR + "house(4,-9,20,9,9,9,0)=0 " + text("d1;b1") + "perform(0)=0 about(0,8)=0");
        Edge.of(48, "a turn that cannot be done", CAR + "house(-9,2,9,9,9,9,0)=0 " + text("b1;l2;b1") + "perform(0)=1 "
            + "about(0,5)=-260 about(0,7)=0");
    }
}
