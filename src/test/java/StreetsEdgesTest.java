/** The sentences of promises 1 to 10, and of the terms for them, that name a boundary: one case for each. */
public final class StreetsEdgesTest {
    public static void main(String[] args) {
        newObject();
        turn();
        boxes(3, "house", "9,9,1");
        boxes(5, "kerb", "");
        boxes(6, "wire", "9");
        boxes(8, "slope", "0,0,true");
        house();
        cut();
        kerbs();
        wires();
        down();
        slopes();
        rain();
        ground();
        Edge.close("StreetsEdgesTest", 1, 10);
    }

    private static void newObject() {
        Edge.of(1, "nothing stands", "count(0)=0 count(1)=0 count(2)=0 count(3)=0 count(4)=0 count(5)=0 count(6)=0 "
            + "count(7)=0 count(8)=0 count(10)=0 count(11)=0");
        Edge.of(1, "all SHEETS are LOST", "lose(0)=NULL lose(1)=NULL lose(2)=NULL lose(3)=NULL");
        Edge.of(1, "no FINDING before any", "count(9)=0");
        Edge.of(1, "what is told at first: F, FORCE, ROLL, GRIP, RUN, CREWS",
            "feet(1)=4 set(0,1)=3 set(1,1)=20 set(2,1)=12 run(1)=2 crews(2)=1");
        lastCall();
        FloatTowers one = new FloatTowers();
        one.house(0, 0, 1, 1, 1, 1, 1);
        one.car(2, 2, 1, 0);
        one.feet(9);
        one.type(100);
        one.sheet(0, 0, 9);
        one.team(5);
        FloatTowers other = new FloatTowers();
        Due.is("1: another object is new, whatever one did", other.digest(), new FloatTowers().digest());
        Due.is("1: its SHEETS are LOST", other.lose(0), -11);
        Due.is("1: the first one has what it had", one.count(0), 1);
    }

    private static void lastCall() {
        FloatTowers x = new FloatTowers();
        x.car(2, 2, 1, 0);
        x.stand(0, 0, 0, 0);
        for (int call = 3; call < 512; call++) {
            Due.is("1: call " + call, x.move(0, call % 2), 1);
        }
        Due.is("1: the 512th call answers as the others", x.about(0, 8), 509);
    }

    private static void turn() {
        Edge.of(2, "HEADINGS are 0 .. 35", "turn(0,0)=65 turn(35,0)=63 turn(-1,0)=-1000 turn(36,0)=-1000");
        Edge.of(2, "the same for S", "turn(0,1)=0 turn(35,1)=-16 turn(-1,1)=-1000 turn(36,1)=-1000");
        Edge.of(2, "C is 0, S is 1, and no more", "turn(9,0)=0 turn(9,1)=65 turn(9,2)=-1000 turn(9,-1)=-1000");
        Edge.of(2, "any numbers", "turn(LEAST,0)=-1000 turn(MOST,1)=-1000 turn(0,LEAST)=-1000 turn(0,MOST)=-1000");
        Edge.of(2, "C of 0 .. 9", "turn(0,0)=65 turn(1,0)=63 turn(2,0)=60 turn(3,0)=56 turn(4,0)=52 turn(5,0)=39 "
            + "turn(6,0)=33 turn(7,0)=25 turn(8,0)=16 turn(9,0)=0");
        Edge.of(2, "C of 18 less h with its other sign", "turn(10,0)=-16 turn(11,0)=-25 turn(12,0)=-33 turn(13,0)=-39 "
            + "turn(14,0)=-52 turn(15,0)=-56 turn(16,0)=-60 turn(17,0)=-63 turn(18,0)=-65");
        Edge.of(2, "C of 18 and h likewise", "turn(19,0)=-63 turn(20,0)=-60 turn(21,0)=-56 turn(22,0)=-52 "
            + "turn(23,0)=-39 turn(24,0)=-33 turn(25,0)=-25 turn(26,0)=-16 turn(27,0)=0");
        Edge.of(2, "C of 36 less h as of h", "turn(28,0)=16 turn(29,0)=25 turn(30,0)=33 turn(31,0)=39 turn(32,0)=52 "
            + "turn(33,0)=56 turn(34,0)=60 turn(35,0)=63");
        Edge.of(2, "S of h is C of h less 9, going round", "turn(0,1)=0 turn(1,1)=16 turn(4,1)=39 turn(5,1)=52 "
            + "turn(8,1)=63 turn(9,1)=65 turn(10,1)=63 turn(18,1)=0 turn(19,1)=-16 turn(27,1)=-65 turn(28,1)=-63");
    }

    /** Of a call that takes a BOX first, and behind it what may be. */
    private static void boxes(int promise, String name, String rest) {
        String behind = (rest.isEmpty() ? "" : "," + rest) + ")=";
        String call = name + "(";
        Edge.of(promise, "a BOX of -500 to 500", call + "-500,-500,500,500" + behind + "0");
        Edge.of(promise, "a BOX at the least end", call + "-500,-500,-499,-499" + behind + "0");
        Edge.of(promise, "a BOX at the other end", call + "499,499,500,500" + behind + "0");
        for (String wrong : new String[] {"-501,0,1,1", "0,-501,1,1", "0,0,501,1", "0,0,1,501", "501,0,502,1",
            "0,501,1,502", "-502,0,-501,1", "0,-502,1,-501", "LEAST,0,1,1", "0,LEAST,1,1", "0,0,MOST,1", "0,0,1,MOST"}) {
            Edge.of(promise, "a BOX beyond -500 to 500", call + wrong + behind + "BAD");
        }
        Edge.of(promise, "x0 less than x1", call + "3,0,3,9" + behind + "BAD " + call + "3,0,4,9" + behind + "0");
        Edge.of(promise, "x0 above x1", call + "4,0,3,9" + behind + "BAD");
        Edge.of(promise, "y0 less than y1", call + "0,3,9,3" + behind + "BAD " + call + "0,3,9,4" + behind + "0");
        Edge.of(promise, "y0 above y1", call + "0,4,9,3" + behind + "BAD");
    }

    private static void house() {
        Edge.of(3, "TOP 1 to 99", "house(0,0,1,1,0,9,1)=BAD house(0,0,1,1,1,9,1)=0 house(0,0,1,1,99,9,1)=1 "
            + "house(0,0,1,1,100,9,1)=BAD count(0)=2");
        Edge.of(3, "E 1 to 99", "house(0,0,1,1,9,0,1)=BAD house(0,0,1,1,9,1,1)=0 house(0,0,1,1,9,99,1)=1 "
            + "house(0,0,1,1,9,100,1)=BAD count(0)=2");
        Edge.of(3, "OUT 0 to 9", "house(0,0,1,1,9,9,-1)=BAD house(0,0,1,1,9,9,0)=0 house(0,0,1,1,9,9,9)=1 "
            + "house(0,0,1,1,9,9,10)=BAD count(0)=2 cut(0,0)=0 cut(1,9)=9");
        Edge.of(3, "any numbers", "house(0,0,1,1,LEAST,9,1)=BAD house(0,0,1,1,9,MOST,1)=BAD "
            + "house(0,0,1,1,9,9,LEAST)=BAD house(0,0,1,1,9,9,MOST)=BAD");
        Edge.of(3, "20 at most", "20*house(0,0,1,1,1,1,1)={i} house(0,0,1,1,1,1,1)=FULL count(0)=20");
        Edge.of(3, "BAD goes ahead of FULL", "20*house(0,0,1,1,1,1,1)={i} house(1,0,1,1,1,1,1)=BAD "
            + "house(0,0,1,1,0,1,1)=BAD house(0,0,1,1,1,0,1)=BAD house(0,0,1,1,1,1,10)=BAD");
    }

    private static void cut() {
        Edge.of(4, "what it was", "house(0,0,1,1,1,1,5)=0 cut(0,3)=5 cut(0,2)=3");
        Edge.of(4, "more than it was is BAD", "house(0,0,1,1,1,1,5)=0 cut(0,6)=BAD cut(0,3)=5 cut(0,4)=BAD cut(0,3)=3");
        Edge.of(4, "as much as it was", "house(0,0,1,1,1,1,5)=0 cut(0,5)=5 cut(0,5)=5");
        Edge.of(4, "back to 0 and no less", "house(0,0,1,1,1,1,5)=0 cut(0,-1)=BAD cut(0,0)=5 cut(0,0)=0 cut(0,1)=BAD");
        Edge.of(4, "9 at most", "house(0,0,1,1,1,1,9)=0 cut(0,10)=BAD cut(0,MOST)=BAD cut(0,LEAST)=BAD cut(0,9)=9");
        Edge.of(4, "no such HOUSE", "cut(0,0)=BAD house(0,0,1,1,1,1,5)=0 cut(1,0)=BAD cut(-1,0)=BAD cut(MOST,0)=BAD "
            + "cut(LEAST,0)=BAD cut(0,0)=5");
        Edge.of(4, "of the last of 20", "20*house(0,0,1,1,1,1,5)={i} cut(19,1)=5 cut(18,5)=5 cut(20,1)=BAD");
    }

    private static void kerbs() {
        Edge.of(5, "10 at most", "10*kerb(0,0,1,1)={i} kerb(0,0,1,1)=FULL count(1)=10");
        Edge.of(5, "BAD goes ahead of FULL", "10*kerb(0,0,1,1)={i} kerb(0,1,1,1)=BAD");
    }

    private static void wires() {
        Edge.of(6, "a height of 1 to 99", "wire(0,0,1,1,0)=BAD wire(0,0,1,1,1)=0 wire(0,0,1,1,99)=1 "
            + "wire(0,0,1,1,100)=BAD wire(0,0,1,1,MOST)=BAD wire(0,0,1,1,LEAST)=BAD count(2)=2");
        Edge.of(6, "it hangs", "wire(0,0,1,1,9)=0 count(2)=1 down(0,false)=0");
        Edge.of(6, "10 at most", "10*wire(0,0,1,1,9)={i} wire(0,0,1,1,9)=FULL count(2)=10");
        Edge.of(6, "also when they are DOWN", "10*wire(0,0,1,1,9)={i} 10*down({i},true)=1 count(2)=0 "
            + "wire(0,0,1,1,9)=FULL");
        Edge.of(6, "BAD goes ahead of FULL", "10*wire(0,0,1,1,9)={i} wire(0,0,1,1,0)=BAD wire(0,0,0,1,9)=BAD");
    }

    private static void down() {
        Edge.of(7, "it is so already", "wire(0,0,1,1,9)=0 down(0,false)=0 down(0,true)=1 down(0,true)=0");
        Edge.of(7, "it hangs again", "wire(0,0,1,1,9)=0 down(0,true)=1 count(2)=0 down(0,false)=1 count(2)=1 "
            + "down(0,false)=0");
        Edge.of(7, "no such WIRE", "down(0,true)=BAD wire(0,0,1,1,9)=0 down(1,true)=BAD down(-1,true)=BAD "
            + "down(MOST,false)=BAD down(LEAST,false)=BAD count(2)=1");
        Edge.of(7, "the last of 10, and it alone", "10*wire(0,0,1,1,9)={i} down(9,true)=1 count(2)=9 down(8,true)=1 "
            + "down(10,true)=BAD");
    }

    private static void slopes() {
        Edge.of(8, "a rise along x of -200 to 200", "slope(0,0,1,1,-201,0,true)=BAD slope(0,0,1,1,-200,0,true)=0 "
            + "slope(0,0,1,1,200,0,true)=1 slope(0,0,1,1,201,0,true)=BAD count(3)=2 ground(0,0,1)=-200");
        Edge.of(8, "a rise along y of -200 to 200", "slope(0,0,1,1,0,-201,true)=BAD slope(0,0,1,1,0,200,true)=0 "
            + "slope(0,0,1,1,0,-200,true)=1 slope(0,0,1,1,0,201,true)=BAD count(3)=2 ground(0,0,2)=200");
        Edge.of(8, "any numbers", "slope(0,0,1,1,LEAST,0,true)=BAD slope(0,0,1,1,MOST,0,true)=BAD "
            + "slope(0,0,1,1,0,LEAST,true)=BAD slope(0,0,1,1,0,MOST,true)=BAD");
        Edge.of(8, "10 at most", "10*slope(0,0,1,1,1,1,true)={i} slope(0,0,1,1,1,1,true)=FULL count(3)=10");
        Edge.of(8, "BAD goes ahead of FULL", "10*slope(0,0,1,1,1,1,true)={i} slope(1,0,1,1,1,1,true)=BAD "
            + "slope(0,0,1,1,201,1,true)=BAD slope(0,0,1,1,1,-201,true)=BAD");
        Edge.of(8, "each may be WET", "slope(0,0,1,1,1,1,true)=0 slope(2,2,3,3,1,1,false)=1 ground(0,0,3)=1 "
            + "ground(130,130,3)=0");
    }

    private static void rain() {
        Edge.of(9, "without SLOPES", "rain(true)=0 rain(false)=0");
        Edge.of(9, "how many have changed", "slope(0,0,1,1,1,1,true)=0 slope(2,2,3,3,1,1,false)=1 "
            + "slope(4,4,5,5,1,1,false)=2 rain(true)=2 rain(true)=0 rain(false)=3 rain(false)=0");
        Edge.of(9, "all are WET", "2*slope(0,0,1,1,1,1,false)={i} slope(4,4,5,5,1,1,false)=2 rain(true)=3 "
            + "ground(0,0,3)=1 ground(260,260,3)=1");
        Edge.of(9, "none is", "slope(0,0,1,1,1,1,true)=0 slope(4,4,5,5,1,1,true)=1 rain(false)=2 ground(0,0,3)=0 "
            + "ground(260,260,3)=0");
        Edge.of(9, "one that comes later is as it is told", "slope(0,0,1,1,1,1,false)=0 rain(true)=1 "
            + "slope(4,4,5,5,1,1,false)=1 ground(260,260,3)=0 rain(true)=1");
        Edge.of(9, "the level ground stays dry", "slope(0,0,1,1,1,1,false)=0 rain(true)=1 ground(66,0,3)=0");
    }

    private static void ground() {
        Edge.of(10, "x of -40000 to 40000", "ground(-40000,0,0)=NONE ground(40000,0,0)=NONE ground(-40001,0,0)=-1000 "
            + "ground(40001,0,0)=-1000 ground(LEAST,0,0)=-1000 ground(MOST,0,0)=-1000");
        Edge.of(10, "y of -40000 to 40000", "ground(0,-40000,0)=NONE ground(0,40000,0)=NONE ground(0,-40001,0)=-1000 "
            + "ground(0,40001,0)=-1000 ground(0,LEAST,0)=-1000 ground(0,MOST,0)=-1000");
        Edge.of(10, "what is 0 to 3", "slope(0,0,1,1,5,-6,true)=0 ground(0,0,0)=0 ground(0,0,1)=5 ground(0,0,2)=-6 "
            + "ground(0,0,3)=1 ground(0,0,-1)=-1000 ground(0,0,4)=-1000 ground(0,0,LEAST)=-1000 "
            + "ground(0,0,MOST)=-1000");
        Edge.of(10, "elsewhere it is level", "slope(0,0,1,1,5,-6,true)=0 ground(66,0,0)=NONE ground(66,0,1)=0 "
            + "ground(66,0,2)=0 ground(66,0,3)=0");
        Edge.of(10, "a place on a BOX's rim is of it", "slope(1,2,3,4,5,6,false)=0 ground(65,200,0)=0 "
            + "ground(195,200,0)=0 ground(100,130,0)=0 ground(100,260,0)=0");
        Edge.of(10, "its corners too", "slope(1,2,3,4,5,6,false)=0 ground(65,130,0)=0 ground(195,260,0)=0 "
            + "ground(65,260,0)=0 ground(195,130,0)=0");
        Edge.of(10, "a 65th beyond is not", "slope(1,2,3,4,5,6,false)=0 ground(64,200,0)=NONE ground(196,200,0)=NONE "
            + "ground(100,129,0)=NONE ground(100,261,0)=NONE");
        Edge.of(10, "where several are the least number counts", "slope(0,0,2,2,5,6,false)=0 "
            + "slope(1,1,3,3,7,8,true)=1 slope(0,0,9,9,1,2,true)=2 ground(130,130,0)=0 ground(130,130,1)=5 "
            + "ground(130,130,2)=6 ground(130,130,3)=0 ground(131,130,0)=1 ground(131,130,3)=1 ground(196,196,0)=2 "
            + "ground(0,300,1)=1");
        Edge.of(10, "negative places", "slope(-3,-3,-1,-1,5,6,false)=0 ground(-65,-65,0)=0 ground(-64,-65,0)=NONE "
            + "ground(-195,-195,0)=0 ground(-196,-195,0)=NONE");
    }
}
