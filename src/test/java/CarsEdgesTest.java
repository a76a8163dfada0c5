/** The sentences of promises 11 to 19, and of the terms for them, that name a boundary: one case for each. */
public final class CarsEdgesTest {
    /** From 0 to 8 feet a storey of 1 by 1, from 8 to 12 one of 5 by 5. */
    private static final String TOWER = "car(2,2,10,0)=0 storey(0,8,1,1)=1 storey(0,12,5,5)=2 stand(0,0,0,0)=1 ";
    private static final String CAR = "car(4,2,10,0)=0 storey(0,9,4,2)=1 stand(0,0,0,0)=1 ";

    public static void main(String[] args) {
        car();
        storey();
        stand();
        leave();
        about();
        wheel();
        feet();
        sway();
        houses();
        eaves();
        wires();
        kerbs();
        otherCars();
        touching();
        asFarAsMayBe();
        leastOfThese();
        meets();
        move();
        Edge.close("CarsEdgesTest", 11, 19);
    }

    private static void car() {
        Edge.of(11, "LONG 2 to 30", "car(1,2,1,0)=BAD car(2,2,1,0)=0 car(30,2,1,0)=1 car(31,2,1,0)=BAD count(4)=2");
        Edge.of(11, "BROAD 2 to 30", "car(2,1,1,0)=BAD car(2,2,1,0)=0 car(2,30,1,0)=1 car(2,31,1,0)=BAD count(4)=2");
        Edge.of(11, "WEIGHT 1 to 999", "car(2,2,0,0)=BAD car(2,2,1,0)=0 car(2,2,999,0)=1 car(2,2,1000,0)=BAD");
        Edge.of(11, "SWAY 0 to 20", "car(2,2,1,-1)=BAD car(2,2,1,0)=0 car(2,2,1,20)=1 car(2,2,1,21)=BAD");
        Edge.of(11, "any numbers", "car(LEAST,2,1,0)=BAD car(2,MOST,1,0)=BAD car(2,2,LEAST,0)=BAD car(2,2,1,MOST)=BAD "
            + "car(MOST,2,1,0)=BAD car(2,LEAST,1,0)=BAD car(2,2,MOST,0)=BAD car(2,2,1,LEAST)=BAD count(4)=0");
        Edge.of(11, "4 at most", "4*car(2,2,1,0)={i} car(2,2,1,0)=FULL count(4)=4");
        Edge.of(11, "4 at most: no CAR 4 for any call", "4*car(2,2,1,0)={i} storey(4,1,1,1)=BAD stand(4,0,0,0)=BAD "
            + "leave(4)=BAD about(4,0)=LEAST wheel(4,0,0)=LEAST meets(4,0)=BAD move(4,0)=BAD way(4,0,0,1,1,0)=BAD "
            + "rope(4,0,10,9,0)=BAD tight(4,0)=BAD pull(4)=LEAST need(4)=LEAST may(4)=BAD woods(4)=BAD perform(4)=BAD "
            + "stand(3,0,0,0)=1");
        Edge.of(11, "BAD goes ahead of FULL", "4*car(2,2,1,0)={i} car(1,2,1,0)=BAD car(2,31,1,0)=BAD car(2,2,0,0)=BAD "
            + "car(2,2,1,21)=BAD");
        Edge.of(11, "without STOREYS", "car(2,2,1,0)=0 about(0,4)=0");
        Edge.of(11, "they STAND at first nowhere", "car(2,2,1,0)=0 about(0,9)=0 count(5)=0 about(0,5)=LEAST");
    }

    private static void storey() {
        Edge.of(12, "a HEIGHT of 1 to 99", "car(2,2,1,0)=0 storey(0,0,1,1)=BAD storey(0,1,1,1)=1 storey(0,99,1,1)=2 "
            + "storey(0,100,1,1)=BAD storey(0,MOST,1,1)=BAD about(0,4)=2");
        Edge.of(12, "the first may be 99 high", "car(2,2,1,0)=0 storey(0,100,1,1)=BAD storey(0,-1,1,1)=BAD "
            + "storey(0,LEAST,1,1)=BAD storey(0,99,1,1)=1");
        Edge.of(12, "above the one below", "car(2,2,1,0)=0 storey(0,50,1,1)=1 storey(0,49,1,1)=BAD "
            + "storey(0,50,1,1)=BAD storey(0,51,1,1)=2 storey(0,51,1,1)=BAD about(0,4)=2");
        Edge.of(12, "none above 99", "car(2,2,1,0)=0 storey(0,99,1,1)=1 storey(0,99,1,1)=BAD storey(0,100,1,1)=BAD");
        Edge.of(12, "a half length of 1 to 30", "car(2,2,1,0)=0 storey(0,1,0,1)=BAD storey(0,1,1,1)=1 "
            + "storey(0,2,30,1)=2 storey(0,3,31,1)=BAD storey(0,3,LEAST,1)=BAD storey(0,3,MOST,1)=BAD");
        Edge.of(12, "a half breadth of 1 to 30", "car(2,2,1,0)=0 storey(0,1,1,0)=BAD storey(0,1,1,1)=1 "
            + "storey(0,2,1,30)=2 storey(0,3,1,31)=BAD storey(0,3,1,LEAST)=BAD storey(0,3,1,MOST)=BAD");
        Edge.of(12, "STOREYS 1 to 5", "car(2,2,1,0)=0 5*storey(0,{i+1},1,1)={i+1} storey(0,6,1,1)=FULL about(0,4)=5");
        Edge.of(12, "BAD goes ahead of FULL, also HEIGHT", "car(2,2,1,0)=0 5*storey(0,{i+1},1,1)={i+1} "
            + "storey(0,5,1,1)=BAD storey(0,100,1,1)=BAD storey(0,6,0,1)=BAD storey(0,6,1,31)=BAD");
        Edge.of(12, "no such CAR", "storey(0,1,1,1)=BAD car(2,2,1,0)=0 storey(1,1,1,1)=BAD storey(-1,1,1,1)=BAD "
            + "storey(LEAST,1,1,1)=BAD storey(MOST,1,1,1)=BAD storey(0,1,1,1)=1");
        Edge.of(12, "of a CAR", "2*car(2,2,1,0)={i} storey(1,1,1,1)=1 about(0,4)=0 about(1,4)=1");
        Edge.of(12, "it may come to a CAR that STANDS", "car(2,2,1,0)=0 stand(0,0,0,0)=1 house(-1,-1,1,1,9,9,0)=0 "
            + "meets(0,10)=0 storey(0,1,1,1)=1 meets(0,10)=1000");
    }

    private static void stand() {
        Edge.of(13, "x of -500 to 500", "car(2,2,1,0)=0 stand(0,-501,0,0)=BAD stand(0,-500,0,0)=1 "
            + "stand(0,501,0,0)=BAD about(0,5)=-32500 stand(0,500,0,0)=1 about(0,5)=32500 stand(0,LEAST,0,0)=BAD "
            + "stand(0,MOST,0,0)=BAD");
        Edge.of(13, "y of -500 to 500", "car(2,2,1,0)=0 stand(0,0,-501,0)=BAD stand(0,0,-500,0)=1 "
            + "stand(0,0,501,0)=BAD about(0,6)=-32500 stand(0,0,500,0)=1 about(0,6)=32500 stand(0,0,LEAST,0)=BAD "
            + "stand(0,0,MOST,0)=BAD");
        Edge.of(13, "HEADING 0 to 35", "car(2,2,1,0)=0 stand(0,0,0,-1)=BAD stand(0,0,0,0)=1 stand(0,0,0,36)=BAD "
            + "about(0,7)=0 stand(0,0,0,35)=1 about(0,7)=35 stand(0,0,0,LEAST)=BAD stand(0,0,0,MOST)=BAD");
        Edge.of(13, "no such CAR", "stand(0,0,0,0)=BAD car(2,2,1,0)=0 stand(1,0,0,0)=BAD stand(-1,0,0,0)=BAD "
            + "stand(MOST,0,0,0)=BAD stand(LEAST,0,0,0)=BAD count(5)=0");
        Edge.of(13, "it would not be CLEAR: it STANDS as it did", CAR + "house(20,0,30,9,9,9,0)=0 stand(0,7,8,3)=1 "
            + "stand(0,25,5,9)=NOT about(0,5)=455 about(0,6)=520 about(0,7)=3 about(0,9)=1");
        Edge.of(13, "it would not be CLEAR: nowhere, as it did", "car(4,2,10,0)=0 storey(0,9,4,2)=1 "
            + "house(20,0,30,9,9,9,0)=0 stand(0,25,5,9)=NOT about(0,9)=0 count(5)=0");
        Edge.of(13, "BAD goes ahead of NOT", CAR + "house(-20,-20,20,20,9,9,0)=0 stand(0,0,0,36)=BAD "
            + "stand(0,0,0,0)=NOT");
        Edge.of(13, "it is not in its own way", CAR + "stand(0,1,0,0)=1 stand(0,1,0,0)=1");
        Edge.of(13, "NOT for its WHEELS alone", "car(2,2,1,0)=0 kerb(1,1,3,3)=0 stand(0,0,0,0)=NOT stand(0,1,1,0)=1");
        Edge.of(13, "it is no MOVE", CAR + "stand(0,9,0,0)=1 about(0,8)=0 move(0,0)=1 stand(0,9,0,0)=1 about(0,8)=1");
    }

    private static void leave() {
        Edge.of(14, "it did not STAND", "car(2,2,1,0)=0 leave(0)=0 stand(0,0,0,0)=1 leave(0)=1 leave(0)=0 count(5)=0");
        Edge.of(14, "no such CAR", "leave(0)=BAD car(2,2,1,0)=0 stand(0,0,0,0)=1 leave(1)=BAD leave(-1)=BAD "
            + "leave(MOST)=BAD leave(LEAST)=BAD about(0,9)=1");
        Edge.of(14, "it STANDS anew", CAR + "leave(0)=1 stand(0,5,0,0)=1 about(0,5)=325 count(5)=1");
        Edge.of(14, "of a CAR alone", "2*car(2,2,1,0)={i} stand(0,0,0,0)=1 stand(1,9,0,0)=1 leave(0)=1 about(1,9)=1");
    }

    private static void about() {
        Edge.of(15, "what is 0 to 9", "car(3,4,5,6)=0 storey(0,9,4,2)=1 stand(0,7,8,9)=1 move(0,0)=1 about(0,0)=3 "
            + "about(0,1)=4 about(0,2)=5 about(0,3)=6 about(0,4)=1 about(0,5)=455 about(0,6)=780 about(0,7)=9 "
            + "about(0,8)=1 about(0,9)=1 about(0,10)=LEAST about(0,-1)=LEAST about(0,LEAST)=LEAST about(0,MOST)=LEAST");
        Edge.of(15, "no such CAR", "about(0,0)=LEAST car(3,4,5,6)=0 about(1,0)=LEAST about(-1,0)=LEAST "
            + "about(LEAST,0)=LEAST about(MOST,0)=LEAST");
        Edge.of(15, "5 to 7 of one that STANDS nowhere", CAR + "leave(0)=1 about(0,4)=1 about(0,5)=LEAST "
            + "about(0,6)=LEAST about(0,7)=LEAST about(0,8)=0 about(0,9)=0");
        Edge.of(15, "MOVES done so far: none that was refused", CAR + "house(9,-9,10,9,9,9,0)=0 move(0,0)=1 "
            + "move(0,0)=NOT about(0,8)=1 move(0,1)=1 about(0,8)=2");
        Edge.of(15, "MOVES done so far: also when it left", CAR + "move(0,0)=1 leave(0)=1 about(0,8)=1 "
            + "stand(0,0,0,0)=1 move(0,2)=1 about(0,8)=2");
    }

    private static void wheel() {
        Edge.of(16, "LONG, BROAD; LONG, -BROAD; -LONG, BROAD; -LONG, -BROAD", "car(6,3,1,0)=0 stand(0,0,0,0)=1 "
            + "wheel(0,0,0)=390 wheel(0,0,1)=195 wheel(0,1,0)=390 wheel(0,1,1)=-195 wheel(0,2,0)=-390 "
            + "wheel(0,2,1)=195 wheel(0,3,0)=-390 wheel(0,3,1)=-195");
        // 6 C of 8 is 96, 3 S is 189; 6 S is 378, 3 C is 48.
        Edge.of(16, "a C less b S, a S and b C", "car(6,3,1,0)=0 stand(0,1,2,8)=1 wheel(0,0,0)=-28 wheel(0,0,1)=556 "
            + "wheel(0,1,0)=350 wheel(0,1,1)=460 wheel(0,2,0)=-220 wheel(0,2,1)=-200 wheel(0,3,0)=158 "
            + "wheel(0,3,1)=-296");
        Edge.of(16, "WHEELS 0 to 3", "car(6,3,1,0)=0 stand(0,0,0,0)=1 wheel(0,-1,0)=LEAST wheel(0,4,0)=LEAST "
            + "wheel(0,MOST,0)=LEAST wheel(0,LEAST,1)=LEAST");
        Edge.of(16, "x is 0, y is 1", "car(6,3,1,0)=0 stand(0,0,0,0)=1 wheel(0,0,-1)=LEAST wheel(0,0,2)=LEAST "
            + "wheel(0,0,LEAST)=LEAST wheel(0,0,MOST)=LEAST");
        Edge.of(16, "no such CAR", "wheel(0,0,0)=LEAST car(6,3,1,0)=0 stand(0,0,0,0)=1 wheel(1,0,0)=LEAST "
            + "wheel(-1,0,0)=LEAST wheel(MOST,0,0)=LEAST");
        Edge.of(16, "one that STANDS nowhere", "car(6,3,1,0)=0 wheel(0,0,0)=LEAST stand(0,0,0,0)=1 wheel(0,3,1)=-195 "
            + "leave(0)=1 wheel(0,3,1)=LEAST");
    }

    private static void feet() {
        Edge.of(17, "F is 1 to 20", "feet(0)=BAD feet(1)=4 feet(20)=1 feet(21)=BAD feet(-1)=BAD feet(LEAST)=BAD "
            + "feet(MOST)=BAD count(12)=20");
        Edge.of(17, "4 at first", CAR + "count(12)=4 move(0,0)=1 about(0,5)=260");
        Edge.of(17, "DRAWN and BACK by F", CAR + "feet(1)=4 move(0,0)=1 about(0,5)=65 feet(20)=1 move(0,1)=1 "
            + "about(0,5)=-1235");
    }

    /** A wall ahead of a storey, from the storey's rim on. */
    private static void sway() {
        String far = "feet(1)=4 ";
        Edge.of(18, "SWAY times HEIGHT by 100: 99 are cut to 0", "car(2,2,1,1)=0 storey(0,99,4,2)=1 stand(0,0,0,0)=1 "
            + "house(4,-9,9,9,9,99,0)=0 meets(0,10)=0");
        Edge.of(18, "SWAY times HEIGHT by 100: 100 are 1", "car(2,2,1,20)=0 storey(0,5,4,2)=1 stand(0,0,0,0)=1 "
            + "house(5,-9,9,9,9,99,0)=0 meets(0,10)=0 house(4,-9,9,9,9,99,0)=1 meets(0,10)=1001");
        Edge.of(18, "SWAY times HEIGHT by 100: 199 are 1, not 2", "car(2,2,1,11)=0 storey(0,18,4,2)=1 "
            + "stand(0,0,0,0)=1 house(5,-9,9,9,9,99,0)=0 meets(0,10)=0");
        Edge.of(18, "SWAY times HEIGHT by 100: 200 are 2", "car(2,2,1,10)=0 storey(0,20,4,2)=1 stand(0,0,0,0)=1 "
            + "house(6,-9,9,9,9,99,0)=0 meets(0,10)=0 house(5,-9,9,9,9,99,0)=1 meets(0,10)=1001");
        Edge.of(18, "the most: 1980 are 19", "car(2,2,1,20)=0 storey(0,99,30,1)=1 stand(0,0,0,0)=1 "
            + "house(49,-9,99,9,9,99,0)=0 meets(0,10)=0 house(48,-9,99,9,9,99,0)=1 meets(0,10)=1001");
        Edge.of(18, "the halves' breadth too", "car(2,2,1,20)=0 storey(0,5,4,2)=1 stand(0,0,0,0)=1 "
            + "house(-9,3,9,9,9,99,0)=0 meets(0,10)=0 house(-9,2,9,9,9,99,0)=1 meets(0,10)=1001");
        Edge.of(18, "by its HEIGHT, not by how high it is itself", "car(2,2,1,10)=0 storey(0,9,1,1)=1 "
            + "storey(0,10,4,2)=2 stand(0,0,0,0)=1 house(5,-9,9,9,99,99,0)=0 meets(0,10)=0 house(4,-9,9,9,99,99,0)=1 "
            + "meets(0,10)=1001");
        Edge.of(18, "without SWAY", "car(2,2,1,0)=0 storey(0,99,4,2)=1 stand(0,0,0,0)=1 " + far
            + "house(5,-9,9,9,9,99,0)=0 meets(0,10)=0 meets(0,0)=0 move(0,0)=1 meets(0,0)=1000");
    }

    private static void houses() {
        Edge.of(18, "a HOUSE as high as the STOREY's foot", TOWER + "house(3,-2,9,2,8,99,0)=0 meets(0,10)=0");
        Edge.of(18, "a HOUSE higher than the STOREY's foot", TOWER + "house(3,-2,9,2,9,99,0)=0 meets(0,10)=1000");
        Edge.of(18, "a HOUSE of 1 foot, for a STOREY from the ground", TOWER + "house(0,-2,9,2,1,99,0)=0 "
            + "meets(0,10)=1000");
        Edge.of(18, "a HOUSE with its rim at the STOREY's", TOWER + "house(5,-2,9,2,99,99,0)=0 "
            + "house(-9,-2,-5,2,99,99,0)=1 house(-2,5,2,9,99,99,0)=2 house(-2,-9,2,-5,99,99,0)=3 meets(0,10)=0");
        Edge.of(18, "a HOUSE with its corner at the STOREY's", TOWER + "house(5,5,9,9,99,99,0)=0 meets(0,10)=0 "
            + "house(4,4,9,9,99,99,0)=1 meets(0,10)=1001");
        Edge.of(18, "a HOUSE within a STOREY, and a STOREY within a HOUSE", TOWER + "house(-1,2,1,4,99,99,0)=0 "
            + "meets(0,10)=1000 stand(0,50,50,0)=1 house(20,20,80,80,99,99,0)=1 meets(0,10)=1001");
        Edge.of(18, "a CAR without STOREYS meets no HOUSE", "car(2,2,1,0)=0 house(-9,-9,9,9,99,1,9)=0 "
            + "stand(0,0,0,0)=1");
    }

    private static void eaves() {
        Edge.of(18, "EAVES from E on: as high as HEIGHT", TOWER + "house(6,-2,9,2,7,12,2)=0 meets(0,10)=0");
        Edge.of(18, "EAVES from E on: below HEIGHT", TOWER + "house(6,-2,9,2,7,11,2)=0 meets(0,10)=2000");
        Edge.of(18, "EAVES up to TOP and 5: the foot there", TOWER + "house(6,-2,9,2,3,1,2)=0 meets(0,10)=0");
        Edge.of(18, "EAVES up to TOP and 5: the foot below it", TOWER + "house(6,-2,9,2,4,1,2)=0 meets(0,10)=2000");
        Edge.of(18, "EAVES OUT larger on all four ends: the rims", TOWER + "house(6,-2,9,2,7,1,1)=0 "
            + "house(-9,-2,-6,2,7,1,1)=1 house(-2,6,2,9,7,1,1)=2 house(-2,-9,2,-6,7,1,1)=3 meets(0,10)=0");
        Edge.of(18, "x0 less OUT", TOWER + "house(6,-2,9,2,7,1,2)=0 meets(0,10)=2000");
        Edge.of(18, "x1 and OUT", TOWER + "house(-9,-2,-6,2,7,1,2)=0 meets(0,10)=2000");
        Edge.of(18, "y0 less OUT", TOWER + "house(-2,6,2,9,7,1,2)=0 meets(0,10)=2000");
        Edge.of(18, "y1 and OUT", TOWER + "house(-2,-9,2,-6,7,1,2)=0 meets(0,10)=2000");
        Edge.of(18, "EAVES of 9 feet", TOWER + "house(14,-2,20,2,7,1,9)=0 meets(0,10)=0 house(13,-2,20,2,7,1,9)=1 "
            + "meets(0,10)=2001");
        Edge.of(18, "EAVES that are cut back", TOWER + "house(6,-2,9,2,7,1,2)=0 meets(0,10)=2000 cut(0,1)=2 "
            + "meets(0,10)=0");
        Edge.of(18, "EAVES of OUT 0 are as large as the BOX", TOWER + "house(5,-2,9,2,8,1,0)=0 meets(0,10)=0 "
            + "house(4,-2,9,2,8,1,0)=1 meets(0,10)=2001");
        Edge.of(18, "E above TOP and 5: from E on, by the words, for a high STOREY", "car(2,2,10,0)=0 "
            + "storey(0,50,5,5)=1 stand(0,0,0,0)=1 house(6,-2,9,2,1,49,2)=0 meets(0,10)=2000");
    }

    private static void wires() {
        Edge.of(18, "a WIRE as high as the STOREY's foot", TOWER + "wire(3,-2,9,2,8)=0 meets(0,10)=0");
        Edge.of(18, "a WIRE above the STOREY's foot", TOWER + "wire(3,-2,9,2,9)=0 meets(0,10)=3000");
        Edge.of(18, "a WIRE as high as the HEIGHT", TOWER + "wire(3,-2,9,2,12)=0 meets(0,10)=3000");
        Edge.of(18, "a WIRE above the HEIGHT", TOWER + "wire(3,-2,9,2,13)=0 meets(0,10)=0");
        Edge.of(18, "a WIRE between two STOREYS is the lower one's", TOWER + "wire(0,-2,9,2,8)=0 meets(0,10)=3000");
        Edge.of(18, "a WIRE that is DOWN", TOWER + "wire(3,-2,9,2,9)=0 down(0,true)=1 meets(0,10)=0 down(0,false)=1 "
            + "meets(0,10)=3000");
        Edge.of(18, "a WIRE with its rim at the STOREY's", TOWER + "wire(5,-2,9,2,9)=0 wire(-9,-2,-5,2,9)=1 "
            + "wire(-2,5,2,9,9)=2 wire(-2,-9,2,-5,9)=3 meets(0,10)=0 wire(4,-2,9,2,9)=4 meets(0,10)=3004");
    }

    private static void kerbs() {
        String small = "car(2,2,1,0)=0 stand(0,0,0,0)=1 ";
        Edge.of(18, "WHEEL 0 in a KERB", small + "kerb(1,1,3,3)=0 meets(0,10)=4000");
        Edge.of(18, "WHEEL 1 in a KERB", small + "kerb(1,-3,3,-1)=0 meets(0,10)=4000");
        Edge.of(18, "WHEEL 2 in a KERB", small + "kerb(-3,1,-1,3)=0 meets(0,10)=4000");
        Edge.of(18, "WHEEL 3 in a KERB", small + "kerb(-3,-3,-1,-1)=0 meets(0,10)=4000");
        Edge.of(18, "a WHEEL on a KERB's rim is not in", small + "kerb(2,1,3,3)=0 kerb(1,1,2,3)=1 kerb(1,2,3,3)=2 "
            + "kerb(1,1,3,2)=3 meets(0,10)=0");
        Edge.of(18, "a KERB between the WHEELS, and under the STOREYS alone", small + "storey(0,9,9,9)=1 "
            + "kerb(-1,-1,1,1)=0 kerb(3,3,8,8)=1 meets(0,10)=0");
        // HEADING 8: WHEEL 0 comes to (16 LONG - 63 BROAD, 63 LONG + 16 BROAD).
        Edge.of(18, "in by a 65th, at x0", "car(12,2,1,0)=0 stand(0,0,0,8)=1 wheel(0,0,0)=66 kerb(1,10,3,20)=0 "
            + "meets(0,10)=4000");
        Edge.of(18, "in by a 65th, at x1", "car(20,2,1,0)=0 stand(0,0,0,8)=1 wheel(0,0,0)=194 kerb(1,10,3,20)=0 "
            + "meets(0,10)=4000");
        Edge.of(18, "on the rim at a slant", "car(16,2,1,0)=0 stand(0,0,0,8)=1 wheel(0,0,0)=130 wheel(0,0,1)=1040 "
            + "kerb(2,10,5,20)=0 kerb(1,16,5,20)=1 meets(0,10)=0 kerb(1,10,3,17)=2 meets(0,10)=4002");
    }

    private static void otherCars() {
        String beside = TOWER + "car(2,2,10,0)=1 ";
        Edge.of(18, "STOREYS one above the other have no height in common", beside + "storey(1,8,5,5)=1 "
            + "stand(1,8,0,0)=1 meets(0,10)=0 meets(1,10)=0");
        Edge.of(18, "a foot of height in common", beside + "storey(1,9,5,5)=1 stand(1,8,0,0)=NOT");
        Edge.of(18, "the lower foot is the HEIGHT above", beside + "storey(1,12,1,1)=1 storey(1,13,5,5)=2 "
            + "stand(1,9,0,0)=1 meets(0,10)=0 meets(1,10)=0 stand(1,5,0,0)=NOT");
        Edge.of(18, "lying with rims together is apart", beside + "storey(1,9,5,5)=1 stand(1,10,0,0)=1 "
            + "stand(1,-10,0,0)=1 stand(1,0,10,0)=1 stand(1,0,-10,0)=1 meets(0,10)=0");
        Edge.of(18, "a foot more", beside + "storey(1,9,5,5)=1 stand(1,9,0,0)=NOT stand(1,-9,0,0)=NOT "
            + "stand(1,0,9,0)=NOT stand(1,0,-9,0)=NOT");
        Edge.of(18, "one that STANDS nowhere", beside + "storey(1,9,5,5)=1 leave(0)=1 stand(1,0,0,0)=1 "
            + "stand(0,0,0,0)=NOT");
        Edge.of(18, "one without STOREYS", beside + "stand(1,0,0,0)=1 meets(0,10)=0 storey(1,9,1,1)=1 "
            + "meets(0,10)=5001 meets(1,10)=5000");
        Edge.of(18, "another CAR's SWAY", "car(2,2,10,20)=0 storey(0,5,4,2)=1 stand(0,0,0,0)=1 car(2,2,10,0)=1 "
            + "storey(1,5,4,2)=1 stand(1,8,0,0)=NOT stand(1,9,0,0)=1");
    }

    /** On no one of the four ways along and across both they lie apart: each way is the only one once. */
    private static void touching() {
        String wide = "car(2,2,10,0)=0 ";
        Edge.of(18, "apart along x alone: a STOREY's reach of 16 and 8 * 63, 8 feet", wide + "storey(0,9,1,8)=1 "
            + "stand(0,0,0,8)=1 house(8,-50,20,50,9,9,0)=0 house(-20,-50,-8,50,9,9,0)=1 meets(0,10)=0");
        Edge.of(18, "in by a 65th along x: 5 * 16 and 7 * 63", wide + "storey(0,9,5,7)=1 stand(0,0,0,8)=1 "
            + "house(8,-50,20,50,9,9,0)=0 meets(0,10)=1000");
        Edge.of(18, "in by a 65th along x, from the other side", wide + "storey(0,9,5,7)=1 stand(0,0,0,8)=1 "
            + "house(-20,-50,-8,50,9,9,0)=0 meets(0,10)=1000");
        Edge.of(18, "apart along y alone", wide + "storey(0,9,8,1)=1 stand(0,0,0,8)=1 house(-50,8,50,20,9,9,0)=0 "
            + "house(-50,-20,50,-8,9,9,0)=1 meets(0,10)=0");
        Edge.of(18, "in by a 65th along y: 7 * 63 and 5 * 16", wide + "storey(0,9,7,5)=1 stand(0,0,0,8)=1 "
            + "house(-50,8,50,20,9,9,0)=0 meets(0,10)=1000");
        Edge.of(18, "in by a 65th along y, from the other side", wide + "storey(0,9,7,5)=1 stand(0,0,0,8)=1 "
            + "house(-50,-20,50,-8,9,9,0)=0 meets(0,10)=1000");
        // HEADING 3 is (56, 33): the corner (11, 3) lies 715 by 65 along.
        Edge.of(18, "apart along the HEADING alone: a corner 11 feet along", wide + "storey(0,9,11,4)=1 "
            + "stand(0,0,0,3)=1 house(11,3,30,30,9,9,0)=0 house(-30,-30,-11,-3,9,9,0)=1 meets(0,10)=0");
        Edge.of(18, "a foot longer", wide + "storey(0,9,12,4)=1 stand(0,0,0,3)=1 house(11,3,30,30,9,9,0)=0 "
            + "meets(0,10)=1000");
        Edge.of(18, "a foot longer, behind", wide + "storey(0,9,12,4)=1 stand(0,0,0,3)=1 "
            + "house(-30,-30,-11,-3,9,9,0)=0 meets(0,10)=1000");
        Edge.of(18, "in by a 65th along the HEADING: 4 * 56 and 5 * 33 are 389", wide + "storey(0,9,6,3)=1 "
            + "stand(0,0,0,3)=1 house(4,5,30,30,9,9,0)=0 meets(0,10)=1000");
        Edge.of(18, "apart across the HEADING alone: the corner (4, 7), 260 by 65 across", wide + "storey(0,9,8,4)=1 "
            + "stand(0,0,0,3)=1 house(-20,7,4,30,9,9,0)=0 house(-4,-30,20,-7,9,9,0)=1 meets(0,10)=0");
        Edge.of(18, "a foot broader", wide + "storey(0,9,8,5)=1 stand(0,0,0,3)=1 house(-20,7,4,30,9,9,0)=0 "
            + "meets(0,10)=1000");
        Edge.of(18, "a foot broader, on the other side", wide + "storey(0,9,8,5)=1 stand(0,0,0,3)=1 "
            + "house(-4,-30,20,-7,9,9,0)=0 meets(0,10)=1000");
        Edge.of(18, "in by a 65th across the HEADING: 5 * 33 and 4 * 56 are 389", wide + "storey(0,9,6,6)=1 "
            + "stand(0,0,0,3)=1 house(-20,4,-5,30,9,9,0)=0 meets(0,10)=1000");
        Edge.of(18, "so not in with a foot less", wide + "storey(0,9,6,5)=1 stand(0,0,0,3)=1 "
            + "house(-20,4,-5,30,9,9,0)=0 meets(0,10)=0");
        touchingCars();
    }

    /** The same with a CAR of HEADING 0 in the HOUSE's place, asked from both sides. */
    private static void touchingCars() {
        String two = "car(2,2,10,0)=0 car(2,2,10,0)=1 ";
        Edge.of(18, "two CARS apart along the first alone", two + "storey(0,9,11,4)=1 stand(0,0,0,3)=1 "
            + "storey(1,9,4,4)=1 stand(1,15,7,0)=1 meets(0,10)=0 meets(1,10)=0");
        Edge.of(18, "a foot longer", two + "storey(0,9,12,4)=1 stand(0,0,0,3)=1 storey(1,9,4,4)=1 stand(1,15,7,0)=NOT");
        Edge.of(18, "two CARS apart across the first alone", two + "storey(0,9,8,4)=1 stand(0,0,0,3)=1 "
            + "storey(1,9,12,8)=1 stand(1,-8,15,0)=1 meets(0,10)=0 meets(1,10)=0");
        Edge.of(18, "a foot broader", two + "storey(0,9,8,5)=1 stand(0,0,0,3)=1 storey(1,9,12,8)=1 "
            + "stand(1,-8,15,0)=NOT");
        Edge.of(18, "two CARS apart along the second alone", two + "storey(0,9,1,8)=1 stand(0,0,0,8)=1 "
            + "storey(1,9,5,30)=1 stand(1,13,0,0)=1 meets(0,10)=0 meets(1,10)=0");
        Edge.of(18, "in by a 65th", two + "storey(0,9,5,7)=1 stand(0,0,0,8)=1 storey(1,9,5,30)=1 stand(1,13,0,0)=NOT");
        Edge.of(18, "two CARS apart across the second alone", two + "storey(0,9,8,1)=1 stand(0,0,0,8)=1 "
            + "storey(1,9,30,5)=1 stand(1,0,13,0)=1 meets(0,10)=0 meets(1,10)=0");
        Edge.of(18, "in by a 65th", two + "storey(0,9,7,5)=1 stand(0,0,0,8)=1 storey(1,9,30,5)=1 stand(1,0,13,0)=NOT");
        Edge.of(18, "two CARS of one HEADING at a slant, side by side", two + "storey(0,9,9,1)=1 stand(0,0,0,2)=1 "
            + "storey(1,9,9,1)=1 stand(1,0,3,2)=1 stand(1,0,2,2)=NOT");
    }

    private static void asFarAsMayBe() {
        Edge.of(18, "X of 40000", "car(2,2,1,0)=0 feet(20)=4 stand(0,500,-200,7)=1 15*move(0,0)=1 about(0,5)=40000 "
            + "meets(0,10)=0 feet(1)=20 meets(0,0)=6000 move(0,0)=NOT about(0,5)=40000");
        Edge.of(18, "X of 40001", "car(2,2,1,0)=0 feet(20)=4 stand(0,499,-200,5)=1 9*move(0,0)=1 feet(14)=20 "
            + "meets(0,0)=6000 feet(13)=14 meets(0,0)=0");
        Edge.of(18, "X of -40000", "car(2,2,1,0)=0 feet(20)=4 stand(0,-500,200,25)=1 15*move(0,0)=1 about(0,5)=-40000 "
            + "meets(0,10)=0 feet(1)=20 meets(0,0)=6000");
        Edge.of(18, "X of -40001", "car(2,2,1,0)=0 feet(20)=4 stand(0,-499,200,23)=1 9*move(0,0)=1 feet(14)=20 "
            + "meets(0,0)=6000 feet(13)=14 meets(0,0)=0");
        Edge.of(18, "Y of 40000", "car(2,2,1,0)=0 feet(20)=4 stand(0,-200,500,2)=1 15*move(0,0)=1 about(0,6)=40000 "
            + "meets(0,10)=0 feet(1)=20 meets(0,0)=6000");
        Edge.of(18, "Y of 40001", "car(2,2,1,0)=0 feet(20)=4 stand(0,-200,499,4)=1 9*move(0,0)=1 feet(14)=20 "
            + "meets(0,0)=6000 feet(13)=14 meets(0,0)=0");
        Edge.of(18, "Y of -40000", "car(2,2,1,0)=0 feet(20)=4 stand(0,200,-500,20)=1 15*move(0,0)=1 about(0,6)=-40000 "
            + "meets(0,10)=0 feet(1)=20 meets(0,0)=6000");
        Edge.of(18, "Y of -40001", "car(2,2,1,0)=0 feet(20)=4 stand(0,200,-499,22)=1 9*move(0,0)=1 feet(14)=20 "
            + "meets(0,0)=6000 feet(13)=14 meets(0,0)=0");
        Edge.of(18, "the middle counts, not the WHEELS", "car(30,30,1,0)=0 storey(0,9,30,30)=1 feet(20)=4 "
            + "stand(0,500,-200,7)=1 15*move(0,0)=1 meets(0,10)=0");
    }

    private static void leastOfThese() {
        Edge.of(18, "the least HOUSE, whichever STOREY", TOWER + "house(3,-2,9,2,99,99,0)=0 "
            + "house(-1,-1,1,1,99,99,0)=1 meets(0,10)=1000");
        Edge.of(18, "a HOUSE goes ahead of EAVES", TOWER + "house(6,-2,9,2,7,1,2)=0 house(3,-2,9,2,99,99,0)=1 "
            + "meets(0,10)=1001");
        Edge.of(18, "the least EAVES", TOWER + "house(6,-2,9,2,7,1,1)=0 house(6,-2,9,2,7,1,2)=1 "
            + "house(6,-2,9,2,7,1,9)=2 meets(0,10)=2001");
        Edge.of(18, "EAVES go ahead of a WIRE", TOWER + "wire(3,-2,9,2,9)=0 meets(0,10)=3000 house(6,-2,9,2,7,1,2)=0 "
            + "meets(0,10)=2000");
        Edge.of(18, "the least WIRE, whichever STOREY", TOWER + "wire(3,-2,9,2,9)=0 wire(-1,-1,1,1,1)=1 "
            + "meets(0,10)=3000");
        Edge.of(18, "a WIRE goes ahead of a KERB", TOWER + "kerb(1,1,3,3)=0 meets(0,10)=4000 wire(3,-2,9,2,9)=0 "
            + "meets(0,10)=3000");
        Edge.of(18, "the least KERB, whichever WHEEL", TOWER + "kerb(-3,-3,-1,-1)=0 kerb(1,1,3,3)=1 meets(0,10)=4000");
        Edge.of(18, "a KERB goes ahead of a CAR", TOWER + "2*car(2,2,10,0)={i+1} stand(1,0,0,0)=1 storey(1,9,5,5)=1 "
            + "meets(0,10)=5001 kerb(1,1,3,3)=0 meets(0,10)=4000");
        Edge.of(18, "the least CAR", TOWER + "2*car(2,2,10,0)={i+1} stand(2,0,0,0)=1 storey(2,9,5,5)=1 "
            + "meets(0,10)=5002 stand(1,0,0,0)=1 storey(1,12,5,5)=1 meets(0,10)=5001 meets(2,10)=5000 "
            + "meets(1,10)=5000");
        Edge.of(18, "a CAR goes ahead of 6000", "2*car(2,2,1,0)={i} storey(0,9,4,4)=1 storey(1,9,4,4)=1 feet(20)=4 "
            + "stand(0,500,-200,7)=1 15*move(0,0)=1 stand(1,500,77,0)=1 5*move(1,0)=1 meets(1,0)=5000 leave(0)=1 "
            + "meets(1,0)=6000");
        Edge.of(18, "numbers of two figures", TOWER + "19*house(50,50,60,60,9,9,9)={i} house(3,-2,9,2,99,99,0)=19 "
            + "meets(0,10)=1019");
    }

    private static void meets() {
        Edge.of(18, "MOVE 0 to 9, 10 as it STANDS", CAR + "meets(0,-1)=BAD meets(0,0)=0 meets(0,9)=0 meets(0,10)=0 "
            + "meets(0,11)=BAD meets(0,LEAST)=BAD meets(0,MOST)=BAD");
        Edge.of(18, "no such CAR", "meets(0,0)=BAD " + CAR + "meets(1,0)=BAD meets(-1,0)=BAD meets(MOST,10)=BAD");
        Edge.of(18, "it STANDS nowhere", "car(2,2,1,0)=0 meets(0,0)=NOT meets(0,10)=NOT stand(0,0,0,0)=1 "
            + "meets(0,10)=0 leave(0)=1 meets(0,10)=NOT");
        Edge.of(18, "BAD goes ahead of NOT", "car(2,2,1,0)=0 meets(0,11)=BAD meets(0,-1)=BAD");
        Edge.of(18, "if MOVED so: it does not move", CAR + "meets(0,0)=0 meets(0,2)=0 about(0,5)=0 about(0,7)=0 "
            + "about(0,8)=0");
    }

    private static void move() {
        Edge.of(19, "MOVES 0 to 9", CAR + "move(0,-1)=BAD move(0,10)=BAD move(0,LEAST)=BAD move(0,MOST)=BAD "
            + "about(0,8)=0 move(0,9)=1 move(0,0)=1 about(0,8)=2");
        Edge.of(19, "no such CAR", "move(0,0)=BAD " + CAR + "move(1,0)=BAD move(-1,0)=BAD move(MOST,0)=BAD "
            + "move(LEAST,0)=BAD");
        Edge.of(19, "it STANDS nowhere", "car(2,2,1,0)=0 move(0,0)=NOT about(0,8)=0 about(0,9)=0");
        Edge.of(19, "BAD goes ahead of NOT", "car(2,2,1,0)=0 move(0,10)=BAD");
        Edge.of(19, "it would not be CLEAR", CAR + "house(8,-9,9,9,9,9,0)=0 move(0,0)=1 stand(0,1,0,0)=1 "
            + "move(0,0)=NOT about(0,5)=65 about(0,8)=1");
        Edge.of(19, "CLEAR behind it: not between", CAR + "house(8,-9,9,9,9,9,0)=0 feet(12)=4 move(0,0)=NOT "
            + "feet(13)=12 move(0,0)=1 about(0,5)=845");
        Edge.of(19, "one that is not CLEAR may go where it is", CAR + "house(-9,-9,9,9,9,9,0)=0 meets(0,10)=1000 "
            + "feet(12)=4 move(0,0)=NOT feet(13)=12 move(0,0)=1");
        Edge.of(19, "HEADINGS go round: 35 and 1", "car(2,2,1,0)=0 stand(0,0,0,35)=1 move(0,2)=1 about(0,7)=0");
        Edge.of(19, "HEADINGS go round: 0 less 1", "car(2,2,1,0)=0 stand(0,0,0,0)=1 move(0,6)=1 about(0,7)=35");
        // From 6 * 65, 3 * 65 the WHEEL of HEADING 1 is 378 - 48 = 330, 96 + 189 = 285 off, the next one 426, -93.
        String car = "car(6,3,1,0)=0 stand(0,0,0,0)=1 ";
        Edge.of(19, "2: about WHEEL 0", car + "move(0,2)=1 about(0,5)=60 about(0,6)=-90 about(0,7)=1 wheel(0,0,0)=390 "
            + "wheel(0,0,1)=195");
        Edge.of(19, "3: about WHEEL 1", car + "move(0,3)=1 about(0,5)=-36 about(0,6)=-102 about(0,7)=1 "
            + "wheel(0,1,0)=390 wheel(0,1,1)=-195");
        Edge.of(19, "4: about WHEEL 2", car + "move(0,4)=1 about(0,5)=36 about(0,6)=102 about(0,7)=1 "
            + "wheel(0,2,0)=-390 wheel(0,2,1)=195");
        Edge.of(19, "5: about WHEEL 3", car + "move(0,5)=1 about(0,5)=-60 about(0,6)=90 about(0,7)=1 "
            + "wheel(0,3,0)=-390 wheel(0,3,1)=-195");
        Edge.of(19, "6: about WHEEL 0, 1 less", car + "move(0,6)=1 about(0,5)=-36 about(0,6)=102 about(0,7)=35 "
            + "wheel(0,0,0)=390 wheel(0,0,1)=195");
        Edge.of(19, "7: about WHEEL 1, 1 less", car + "move(0,7)=1 about(0,5)=60 about(0,6)=90 about(0,7)=35 "
            + "wheel(0,1,0)=390 wheel(0,1,1)=-195");
        Edge.of(19, "8: about WHEEL 2, 1 less", car + "move(0,8)=1 about(0,5)=-60 about(0,6)=-90 about(0,7)=35 "
            + "wheel(0,2,0)=-390 wheel(0,2,1)=195");
        Edge.of(19, "9: about WHEEL 3, 1 less", car + "move(0,9)=1 about(0,5)=36 about(0,6)=-102 about(0,7)=35 "
            + "wheel(0,3,0)=-390 wheel(0,3,1)=-195");
        Edge.of(19, "0: along its HEADING, 1: BACK as much", "car(6,3,1,0)=0 stand(0,0,0,13)=1 move(0,0)=1 "
            + "about(0,5)=-156 about(0,6)=208 move(0,1)=1 move(0,1)=1 about(0,5)=156 about(0,6)=-208");
    }
}
