/** The sentences of promises 23 to 29, and of the terms for them, that name a boundary: one case for each. */
public final class RopesEdgesTest {
    private static final String CAR = "car(4,2,10,0)=0 stand(0,0,0,0)=1 ";
    private static final String HEAVY = "car(4,2,100,0)=0 stand(0,0,0,0)=1 ";

    public static void main(String[] args) {
        rope();
        set();
        tight();
        bites();
        bitesAtASlant();
        pull();
        wetPull();
        need();
        may();
        woods();
        wetWoods();
        Edge.close("RopesEdgesTest", 23, 29);
    }

    private static void rope() {
        Edge.of(23, "ROPES 0 to 3", CAR + "rope(0,-1,9,9,0)=BAD rope(0,0,9,9,0)=1 rope(0,3,9,9,0)=1 "
            + "rope(0,4,9,9,0)=BAD rope(0,MOST,9,9,0)=BAD rope(0,LEAST,9,9,0)=BAD");
        Edge.of(23, "HANDS 0 to 300", CAR + "rope(0,0,-1,9,0)=BAD rope(0,0,300,9,0)=1 rope(0,0,301,9,0)=BAD "
            + "pull(0)=900 rope(0,0,0,9,0)=1 pull(0)=0 rope(0,0,MOST,9,0)=BAD rope(0,0,LEAST,9,0)=BAD");
        Edge.of(23, "a LENGTH of 1 to 60", CAR + "rope(0,0,9,0,0)=BAD rope(0,0,9,1,0)=1 rope(0,0,9,60,0)=1 "
            + "rope(0,0,9,61,0)=BAD rope(0,0,9,MOST,0)=BAD rope(0,0,9,LEAST,0)=BAD");
        Edge.of(23, "a BEND of -9 to 9", CAR + "rope(0,0,9,9,-10)=BAD rope(0,0,9,9,-9)=1 rope(0,0,9,9,9)=1 "
            + "rope(0,0,9,9,10)=BAD rope(0,0,9,9,MOST)=BAD rope(0,0,9,9,LEAST)=BAD");
        Edge.of(23, "no such CAR", "rope(0,0,9,9,0)=BAD " + CAR + "rope(1,0,9,9,0)=BAD rope(-1,0,9,9,0)=BAD "
            + "rope(MOST,0,9,9,0)=BAD");
        Edge.of(23, "also of a CAR that STANDS nowhere", "car(2,2,1,0)=0 rope(0,0,10,9,0)=1 stand(0,0,0,0)=1 "
            + "pull(0)=30");
        Edge.of(23, "a wrong one leaves the ROPE as it was", CAR + "rope(0,0,10,5,1)=1 pull(0)=29 "
            + "rope(0,0,20,5,10)=BAD rope(0,0,20,61,1)=BAD rope(0,0,301,5,1)=BAD pull(0)=29");
        Edge.of(23, "HANDS 0 at first, BEND 0 at first", CAR + "pull(0)=0 tight(0,0)=1 tight(0,3)=1 "
            + "house(5,1,9,3,9,9,0)=0 tight(0,0)=100");
        Edge.of(23, "a LENGTH of 20 at first", CAR + "house(24,-9,30,9,9,9,0)=0 house(-30,-9,-24,9,9,9,0)=1 "
            + "tight(0,0)=1 tight(0,3)=1 house(23,-9,30,9,9,9,0)=2 tight(0,0)=102 house(-30,-9,-23,9,9,9,0)=3 "
            + "tight(0,2)=103");
    }

    private static void set() {
        Edge.of(24, "FORCE 1 to 9, 3 at first", "set(0,0)=BAD set(0,1)=3 set(0,9)=1 set(0,10)=BAD set(0,MOST)=BAD "
            + "set(0,LEAST)=BAD set(0,5)=9");
        Edge.of(24, "ROLL 0 to 100, 20 at first", "set(1,-1)=BAD set(1,0)=20 set(1,100)=0 set(1,101)=BAD "
            + "set(1,MOST)=BAD set(1,LEAST)=BAD set(1,5)=100");
        Edge.of(24, "GRIP 1 to 99, 12 at first", "set(2,0)=BAD set(2,1)=12 set(2,99)=1 set(2,100)=BAD set(2,MOST)=BAD "
            + "set(2,LEAST)=BAD set(2,5)=99");
        Edge.of(24, "what is 0 to 2", "set(-1,5)=BAD set(3,5)=BAD set(MOST,5)=BAD set(LEAST,5)=BAD set(0,3)=3 "
            + "set(1,20)=20 set(2,12)=12");
    }

    private static void tight() {
        Edge.of(25, "SLACK with fewer than 10 HANDS", CAR + "rope(0,0,9,9,0)=1 tight(0,0)=1 pull(0)=0 "
            + "rope(0,0,10,9,0)=1 tight(0,0)=0 pull(0)=30");
        Edge.of(25, "ROPES 0 to 3", CAR + "tight(0,-1)=BAD tight(0,0)=1 tight(0,3)=1 tight(0,4)=BAD tight(0,MOST)=BAD "
            + "tight(0,LEAST)=BAD");
        Edge.of(25, "no such CAR", "tight(0,0)=BAD " + CAR + "tight(1,0)=BAD tight(-1,0)=BAD");
        Edge.of(25, "the CAR STANDS nowhere", "car(4,2,10,0)=0 tight(0,0)=NOT rope(0,0,10,9,0)=1 tight(0,0)=NOT "
            + "tight(0,4)=BAD");
        Edge.of(25, "SLACK or not: it BITES", CAR + "house(5,1,9,3,9,9,0)=0 tight(0,0)=100 rope(0,0,10,9,0)=1 "
            + "tight(0,0)=100");
        Edge.of(25, "the least HOUSE, not the nearest", CAR + "house(15,1,19,3,9,9,0)=0 house(5,1,9,3,9,9,0)=1 "
            + "tight(0,0)=100");
        Edge.of(25, "the last of 20 HOUSES", CAR + "19*house(50,50,60,60,9,9,9)={i} house(5,1,9,3,9,9,0)=19 "
            + "tight(0,0)=119");
    }

    /** ROPE 0 goes from (4, 2) along x, ROPE 2 from (-4, 2) the other way. */
    private static void bites() {
        String near = CAR + "rope(0,0,10,6,0)=1 rope(0,2,10,6,0)=1 ";
        Edge.of(25, "LENGTH long: up to the rim", near + "house(10,0,20,9,9,9,0)=0 house(-20,0,-10,9,9,9,0)=1 "
            + "tight(0,0)=0 tight(0,2)=0");
        Edge.of(25, "a foot longer", near + "house(10,0,20,9,9,9,0)=0 house(-20,0,-10,9,9,9,0)=1 rope(0,0,10,7,0)=1 "
            + "rope(0,2,10,7,0)=1 tight(0,0)=100 tight(0,2)=101");
        Edge.of(25, "through the inside: not along a rim", near + "house(5,2,9,9,9,9,0)=0 house(5,-9,9,2,9,9,0)=1 "
            + "tight(0,0)=0 house(5,-9,9,3,9,9,0)=2 tight(0,0)=102");
        Edge.of(25, "from a WHEEL on a rim: away from it", CAR + "rope(0,0,10,6,0)=1 house(-9,0,4,9,9,9,0)=0 "
            + "tight(0,0)=0");
        Edge.of(25, "from a WHEEL on a rim: into it", CAR + "rope(0,0,10,6,0)=1 house(4,0,5,9,9,9,0)=0 tight(0,0)=100");
        Edge.of(25, "wholly within", CAR + "rope(0,0,10,1,0)=1 house(0,0,50,9,9,9,0)=0 tight(0,0)=100");
        Edge.of(25, "a HOUSE's BOX, not its EAVES", near + "house(5,3,9,9,9,1,9)=0 tight(0,0)=0");
        Edge.of(25, "a HOUSE of 1 foot too", near + "house(5,1,9,9,1,99,0)=0 tight(0,0)=100");
        Edge.of(25, "along y: HEADING and BEND", CAR + "rope(0,0,10,6,9)=1 rope(0,1,10,6,-9)=1 rope(0,2,10,6,-9)=1 "
            + "rope(0,3,10,6,9)=1 house(3,8,5,9,9,9,0)=0 house(3,-9,5,-8,9,9,0)=1 house(-5,8,-3,9,9,9,0)=2 "
            + "house(-5,-9,-3,-8,9,9,0)=3 tight(0,0)=0 tight(0,1)=0 tight(0,2)=0 tight(0,3)=0 rope(0,0,10,7,9)=1 "
            + "rope(0,1,10,7,-9)=1 rope(0,2,10,7,-9)=1 rope(0,3,10,7,9)=1 tight(0,0)=100 tight(0,1)=101 "
            + "tight(0,2)=102 tight(0,3)=103");
        Edge.of(25, "its own HEADING goes round", "car(4,2,10,0)=0 stand(0,0,0,35)=1 rope(0,0,10,60,1)=1 "
            + "rope(0,2,10,60,1)=1 house(40,-1,50,50,9,9,0)=0 house(-50,1,-40,5,9,9,0)=1 tight(0,0)=100 "
            + "tight(0,2)=101");
    }

    private static void bitesAtASlant() {
        // From (4, 2) along (56, 33): the corner (15, 5) is 11, 3 off, 195 by 65 to the right; (11, 8) is 7, 6 off.
        String slant = CAR + "rope(0,0,10,13,3)=1 ";
        Edge.of(25, "past a corner", slant + "house(15,-9,20,5,9,9,0)=0 tight(0,0)=0");
        Edge.of(25, "through a corner's place: no inside", CAR + "rope(0,0,10,60,3)=1 house(60,-9,70,35,9,9,0)=0 "
            + "tight(0,0)=0");
        Edge.of(25, "a foot inside that corner", CAR + "rope(0,0,10,60,3)=1 house(54,-9,70,36,9,9,0)=0 tight(0,0)=100");
        Edge.of(25, "x apart alone: its end is 11 feet and 13 65ths off", slant + "house(16,-50,20,50,9,9,0)=0 "
            + "tight(0,0)=0 house(15,-50,20,50,9,9,0)=1 tight(0,0)=101");
        Edge.of(25, "y apart alone: its end is 6 feet and 39 65ths off", slant + "house(-50,9,50,20,9,9,0)=0 "
            + "tight(0,0)=0 house(-50,8,50,20,9,9,0)=1 tight(0,0)=101");
    }

    private static void pull() {
        Edge.of(26, "no such CAR, or one that STANDS nowhere", "pull(0)=LEAST " + "car(2,2,1,0)=0 pull(0)=LEAST "
            + "stand(0,0,0,0)=1 pull(0)=0 pull(1)=LEAST pull(-1)=LEAST pull(MOST)=LEAST leave(0)=1 pull(0)=LEAST");
        Edge.of(26, "forward counts up, back down", CAR + "rope(0,0,10,1,0)=1 pull(0)=30 rope(0,1,20,1,0)=1 "
            + "pull(0)=90 rope(0,2,40,1,0)=1 pull(0)=-30 rope(0,3,80,1,0)=1 pull(0)=-270");
        Edge.of(26, "the most and the least", CAR + "set(0,9)=3 rope(0,0,300,1,0)=1 rope(0,1,300,1,0)=1 pull(0)=5400 "
            + "rope(0,2,300,1,0)=1 rope(0,3,300,1,0)=1 pull(0)=0 rope(0,0,0,1,0)=1 rope(0,1,0,1,0)=1 pull(0)=-5400");
        // 10 * 3 * 63 / 65 = 29.07..., 10 * 3 * 39 / 65 = 18, 11 * 3 * 16 / 65 = 8.1
        Edge.of(26, "by 65, rounded toward 0: forward", CAR + "rope(0,0,10,1,1)=1 pull(0)=29 rope(0,0,10,1,5)=1 "
            + "pull(0)=18 rope(0,0,11,1,-8)=1 pull(0)=8");
        Edge.of(26, "by 65, rounded toward 0: back", CAR + "rope(0,2,10,1,1)=1 pull(0)=-29 rope(0,2,10,1,5)=1 "
            + "pull(0)=-18 rope(0,2,11,1,-8)=1 pull(0)=-8");
        Edge.of(26, "each ROPE is rounded for itself", CAR + "rope(0,0,10,1,4)=1 rope(0,1,10,1,-7)=1 pull(0)=35");
        Edge.of(26, "a ROPE across pulls nothing", CAR + "rope(0,0,300,1,9)=1 rope(0,1,300,1,-9)=1 "
            + "rope(0,2,300,1,9)=1 pull(0)=0");
        Edge.of(26, "C of its HEADING less the CAR's, whatever that is", "car(4,2,10,0)=0 stand(0,0,0,35)=1 "
            + "rope(0,0,10,1,4)=1 pull(0)=24 stand(0,0,0,20)=1 pull(0)=24");
        Edge.of(26, "a ROPE that is SLACK or BITES pulls nothing", CAR + "rope(0,0,9,9,0)=1 rope(0,1,100,9,0)=1 "
            + "pull(0)=300 house(5,-3,9,-1,9,9,0)=0 pull(0)=0 rope(0,1,100,1,0)=1 pull(0)=300");
    }

    private static void wetPull() {
        // 29 * 3 / 4 = 21.75, 31 * 3 / 4 = 23.25
        Edge.of(26, "three quarters, rounded toward 0: forward", CAR + "slope(-1,-1,1,1,0,0,true)=0 "
            + "rope(0,0,10,1,1)=1 pull(0)=21 rain(false)=1 pull(0)=29");
        Edge.of(26, "three quarters, rounded toward 0: back", CAR + "slope(-1,-1,1,1,0,0,true)=0 rope(0,2,11,1,1)=1 "
            + "pull(0)=-23 rain(false)=1 pull(0)=-31");
        // 10 * 3 * 63 = 1890, * 3 / 4 / 65 would be 21.8; 16 * 3 * 56 / 65 = 41.35: 41 is 30.75, 41.35 would be 31.01
        Edge.of(26, "of that, not of the whole", CAR + "slope(-1,-1,1,1,0,0,true)=0 rope(0,0,16,1,3)=1 pull(0)=30");
        Edge.of(26, "of each ROPE", CAR + "slope(-1,-1,1,1,0,0,true)=0 rope(0,0,11,1,0)=1 rope(0,1,11,1,0)=1 "
            + "pull(0)=48");
        Edge.of(26, "its CAR's middle: on the SLOPE's rim", CAR + "slope(0,0,9,9,0,0,true)=0 rope(0,0,100,1,0)=1 "
            + "pull(0)=225");
        Edge.of(26, "its CAR's middle: a foot off", CAR + "slope(1,-9,9,9,0,0,true)=0 rope(0,0,100,1,0)=1 pull(0)=300");
        Edge.of(26, "the least number counts: a dry SLOPE over a WET one", CAR + "slope(0,0,1,1,0,0,false)=0 "
            + "slope(-9,-9,9,9,0,0,true)=1 rope(0,0,100,1,0)=1 pull(0)=300 move(0,0)=1 pull(0)=225");
    }

    private static void need() {
        Edge.of(27, "no such CAR, or one that STANDS nowhere", "need(0)=LEAST car(2,2,10,0)=0 need(0)=LEAST "
            + "stand(0,0,0,0)=1 need(0)=20 need(1)=LEAST need(-1)=LEAST need(MOST)=LEAST leave(0)=1 need(0)=LEAST");
        Edge.of(27, "by 10, rounded up", "car(2,2,11,0)=0 stand(0,0,0,0)=1 set(1,1)=20 need(0)=2 set(1,10)=1 "
            + "need(0)=11 set(1,0)=10 need(0)=0");
        Edge.of(27, "by 10, rounded up: 9 and 1 tenths", "car(2,2,1,0)=0 stand(0,0,0,0)=1 set(1,1)=20 need(0)=1 "
            + "set(1,9)=1 need(0)=1 set(1,10)=9 need(0)=1 set(1,11)=10 need(0)=2");
        Edge.of(27, "by 10, rounded up: below 0", "car(2,2,1,0)=0 stand(0,0,0,0)=1 slope(-9,-9,9,9,-29,0,true)=0 "
            + "need(0)=0 set(1,19)=20 need(0)=-1 set(1,10)=19 need(0)=-1 set(1,9)=10 need(0)=-2");
        // (1 * 63) / 65 is 0, (-1 * 63) / 65 is -1
        Edge.of(27, "the rise by 65, rounded down", "car(2,2,10,0)=0 stand(0,0,0,1)=1 slope(-9,-9,9,9,1,0,true)=0 "
            + "need(0)=20 leave(0)=1 stand(0,20,0,1)=1 slope(11,-9,30,9,-1,0,true)=1 need(0)=19");
        Edge.of(27, "the rise by 65, rounded down: just a whole one", "car(2,2,10,0)=0 stand(0,0,0,0)=1 "
            + "slope(-9,-9,9,9,-1,0,true)=0 need(0)=19 stand(0,0,0,18)=1 need(0)=21");
        // 65 * 63 / 65 = 63 along x, 65 * 16 / 65 = 16 along y
        Edge.of(27, "rise x times C and rise y times S", "car(2,2,10,0)=0 stand(0,0,0,1)=1 "
            + "slope(-9,-9,9,9,65,0,true)=0 need(0)=83 leave(0)=1 stand(0,20,0,1)=1 slope(11,-9,30,9,0,65,true)=1 "
            + "need(0)=36");
        // -33 and 40 are 7 together; each rounded for itself -33 * 63 / 65 = -32, 40 * 16 / 65 = 9.8
        Edge.of(27, "both are put together ahead of the rounding", "car(2,2,10,0)=0 stand(0,0,0,1)=1 "
            + "slope(-9,-9,9,9,33,43,true)=0 need(0)=62");
        Edge.of(27, "where several are the least number counts", "car(2,2,10,0)=0 stand(0,0,0,0)=1 "
            + "slope(-1,-1,0,0,7,0,true)=0 slope(-9,-9,9,9,50,0,true)=1 need(0)=27 move(0,0)=1 need(0)=70");
        Edge.of(27, "elsewhere it is level", "car(2,2,10,0)=0 stand(0,0,0,0)=1 slope(1,-9,9,9,50,0,true)=0 need(0)=20");
        Edge.of(27, "the most and the least", "car(2,2,999,0)=0 stand(0,0,0,0)=1 slope(-9,-9,9,9,200,0,true)=0 "
            + "set(1,100)=20 need(0)=29970 stand(0,0,0,18)=1 set(1,0)=100 need(0)=-19980");
    }

    private static void may() {
        Edge.of(28, "no such CAR", "may(0)=BAD car(2,2,1,0)=0 may(1)=BAD may(-1)=BAD may(MOST)=BAD may(LEAST)=BAD");
        Edge.of(28, "one that STANDS nowhere", "car(2,2,1,0)=0 may(0)=NOT stand(0,0,0,0)=1 may(0)=0 leave(0)=1 "
            + "may(0)=NOT");
        Edge.of(28, "PULL is at least NEED", HEAVY + "set(0,2)=3 rope(0,0,99,1,0)=1 pull(0)=198 need(0)=200 may(0)=0 "
            + "rope(0,0,100,1,0)=1 may(0)=1 rope(0,0,101,1,0)=1 may(0)=1");
        Edge.of(28, "less by 1", "car(2,2,100,0)=0 stand(0,0,0,0)=1 set(0,1)=3 rope(0,0,199,1,0)=1 pull(0)=199 "
            + "may(0)=0 rope(0,0,200,1,0)=1 may(0)=1");
        Edge.of(28, "above 0: a NEED of 0 and no PULL", HEAVY + "set(1,0)=20 need(0)=0 pull(0)=0 may(0)=0");
        Edge.of(28, "above 0: a NEED below 0 and no PULL", HEAVY + "slope(-9,-9,9,9,-50,0,false)=0 need(0)=-300 "
            + "may(0)=0");
        Edge.of(28, "above 0: 1 is", HEAVY + "set(1,0)=20 set(0,1)=3 rope(0,0,10,1,8)=1 rope(0,2,10,1,9)=1 pull(0)=2 "
            + "may(0)=1 slope(-9,-9,9,9,0,0,true)=0 pull(0)=1 may(0)=1");
        Edge.of(28, "above 0: a PULL back that is at least NEED", HEAVY + "slope(-9,-9,9,9,-50,0,false)=0 "
            + "rope(0,2,10,1,0)=1 pull(0)=-30 need(0)=-300 may(0)=0");
    }

    /** A rise of -32 by 1000 and a ROLL of 20: the NEED of 100 is -120. */
    private static void woods() {
        String down = HEAVY + "slope(-9,-9,9,9,-32,0,false)=0 need(0)=-120 ";
        Edge.of(29, "no such CAR", "woods(0)=BAD car(2,2,1,0)=0 woods(1)=BAD woods(-1)=BAD woods(MOST)=BAD");
        Edge.of(29, "one that STANDS nowhere", "car(2,2,1,0)=0 woods(0)=NOT stand(0,0,0,0)=1 woods(0)=0 leave(0)=1 "
            + "woods(0)=NOT");
        Edge.of(29, "nothing pulls it: uphill, and level", HEAVY + "need(0)=200 woods(0)=0 set(1,0)=20 need(0)=0 "
            + "woods(0)=0");
        Edge.of(29, "at least NEED turned about", down + "set(2,12)=12 woods(0)=10 set(2,13)=12 woods(0)=10 "
            + "set(2,11)=13 woods(0)=11");
        Edge.of(29, "1 is needed", "car(2,2,10,0)=0 stand(0,0,0,0)=1 slope(-9,-9,9,9,-21,0,false)=0 need(0)=-1 "
            + "set(2,1)=12 woods(0)=1");
        Edge.of(29, "20 WOODS", down + "set(2,6)=12 woods(0)=20");
        Edge.of(29, "20 are not enough", down + "set(2,5)=12 woods(0)=NONE");
        Edge.of(29, "PULL turned about, if that is below 0", down + "set(2,5)=12 rope(0,2,10,1,0)=1 pull(0)=-30 "
            + "woods(0)=18");
        Edge.of(29, "together just enough, and 1 too few", down + "set(2,5)=12 set(0,1)=3 rope(0,2,20,1,0)=1 "
            + "pull(0)=-20 woods(0)=20 rope(0,2,19,1,0)=1 pull(0)=-19 woods(0)=NONE");
        Edge.of(29, "a PULL forward does not count, either way", down + "rope(0,0,300,1,0)=1 pull(0)=900 woods(0)=10");
        Edge.of(29, "held by ROPES alone", down + "rope(0,2,40,1,0)=1 pull(0)=-120 woods(0)=0 rope(0,2,39,1,0)=1 "
            + "pull(0)=-117 woods(0)=1");
        Edge.of(29, "the other HEADING is uphill: nothing pulls it", "car(4,2,100,0)=0 stand(0,0,0,18)=1 "
            + "slope(-9,-9,9,9,-32,0,false)=0 need(0)=520 woods(0)=0");
    }

    private static void wetWoods() {
        String wet = HEAVY + "slope(-9,-9,9,9,-32,0,true)=0 need(0)=-120 ";
        Edge.of(29, "on WET ground half: 20 of 12", wet + "woods(0)=20 set(2,11)=12 woods(0)=NONE");
        // 19 * 13 = 247, half 123; 18 * 13 = 234, half 117: halved one by one 19 * 6 = 114 and 20 * 6 = 120
        Edge.of(29, "half of all, cut: not of each", wet + "set(2,13)=12 woods(0)=19");
        Edge.of(29, "cut: 7 * 17 is 119, half 59; 8 * 17 is 136", "car(4,2,50,0)=0 stand(0,0,0,0)=1 "
            + "slope(-9,-9,9,9,-32,0,true)=0 need(0)=-60 set(2,17)=12 woods(0)=8");
        Edge.of(29, "cut: 1 of GRIP 1 is 0, 2 are 1", "car(2,2,10,0)=0 stand(0,0,0,0)=1 slope(-9,-9,9,9,-21,0,true)=0 "
            + "need(0)=-1 set(2,1)=12 woods(0)=2");
        Edge.of(29, "the PULL is not halved again", wet + "set(2,1)=12 rope(0,2,50,1,0)=1 pull(0)=-112 woods(0)=16");
        Edge.of(29, "dry again", wet + "woods(0)=20 rain(false)=1 woods(0)=10");
    }
}
