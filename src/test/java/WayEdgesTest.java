/** The sentences of promises 20 to 22, and of the terms for them, that name a boundary: one case for each. */
public final class WayEdgesTest {
    private static final String CAR = "car(4,2,10,0)=0 storey(0,9,4,2)=1 stand(0,0,0,0)=1 ";
    /** A lane as broad as the CAR, in which it can't be turned. */
    private static final String LANE = CAR + "house(-500,2,500,20,9,9,0)=0 house(-500,-20,500,-2,9,9,0)=1 ";
    private static final String SMALL = "car(2,2,10,0)=0 stand(0,0,0,0)=1 feet(8)=4 ";
    /** Walls and a KERB about a CAR that can come to exactly 1500 STANDINGS. */
    private static final String YARD = "car(4,4,10,0)=0 storey(0,9,4,4)=1 stand(0,0,0,0)=1 feet(12)=4 "
        + "house(-500,8,500,28,9,99,0)=0 house(-500,-28,500,-8,9,99,0)=1 house(5,-8,25,8,9,99,0)=2 "
        + "house(-26,-8,-6,8,9,99,0)=3 ";

    public static void main(String[] args) {
        refusals();
        goal();
        leastMoves();
        twelveMoves();
        counted();
        spent();
        steps();
        seen();
        Edge.close("WayEdgesTest", 20, 22);
    }

    private static void refusals() {
        for (String wrong : new String[] {"-501,0,1,1", "0,-501,1,1", "0,0,501,1", "0,0,1,501", "501,0,502,1",
            "0,501,1,502", "-502,0,-501,1", "0,-502,1,-501", "LEAST,0,1,1", "0,LEAST,1,1", "0,0,MOST,1", "0,0,1,MOST",
            "3,0,3,9", "4,0,3,9", "0,3,9,3", "0,4,9,3"}) {
            Edge.of(20, "a GOAL that is no BOX", LANE + "way(0," + wrong + ",0)=BAD seen()=0");
        }
        Edge.of(20, "a GOAL as wide as may be", LANE + "way(0,-500,-500,500,500,0)=0");
        Edge.of(20, "a GOAL of a foot at each end", LANE + "way(0,-500,-500,-499,-499,0)=NOT "
            + "way(0,499,499,500,500,0)=NOT");
        Edge.of(20, "HEADING 0 to 35", LANE + "way(0,-9,-9,9,9,-1)=BAD way(0,-9,-9,9,9,36)=BAD "
            + "way(0,-9,-9,9,9,LEAST)=BAD way(0,-9,-9,9,9,MOST)=BAD way(0,-9,-9,9,9,0)=0 way(0,-9,-9,9,9,35)=NOT");
        Edge.of(20, "no such CAR", "way(0,-9,-9,9,9,0)=BAD " + LANE + "way(1,-9,-9,9,9,0)=BAD way(-1,-9,-9,9,9,0)=BAD "
            + "way(MOST,-9,-9,9,9,0)=BAD way(LEAST,-9,-9,9,9,0)=BAD");
        Edge.of(20, "it STANDS nowhere", "car(2,2,1,0)=0 way(0,-9,-9,9,9,0)=NOT seen()=0");
        Edge.of(20, "BAD goes ahead of NOT", "car(2,2,1,0)=0 way(0,9,-9,9,9,0)=BAD way(0,-9,-9,9,9,36)=BAD");
    }

    private static void goal() {
        Edge.of(20, "it is there already: no MOVES", LANE + "way(0,-5,-3,5,3,0)=0 seen()=1 step(0)=BAD");
        Edge.of(20, "its four WHEELS on the BOX's rim", LANE + "way(0,-4,-2,4,2,0)=0");
        Edge.of(20, "a WHEEL beyond x0", LANE + "way(0,-3,-2,9,2,0)=1 step(0)=0");
        Edge.of(20, "a WHEEL beyond x1", LANE + "way(0,-9,-2,3,2,0)=1 step(0)=1");
        Edge.of(20, "a WHEEL beyond y0", LANE + "way(0,-9,-1,9,9,0)=NOT");
        Edge.of(20, "a WHEEL beyond y1", LANE + "way(0,-9,-9,9,1,0)=NOT");
        Edge.of(20, "a BOX that has the middle, but not the WHEELS", LANE + "way(0,-1,-1,1,1,0)=NOT");
        // HEADING 3: the WHEELS come to (158, 244), (290, 20), (-290, -20), (-158, -244).
        String slant = "car(4,2,10,0)=0 storey(0,9,1,1)=1 stand(0,0,0,3)=1 house(-50,-50,50,50,9,9,0)=0 ";
        Edge.of(20, "its four WHEELS at a slant", slant + "way(0,-5,-4,5,4,3)=0");
        Edge.of(20, "WHEEL 0 alone beyond", slant + "way(0,-5,-4,5,3,3)=NOT seen()=1");
        Edge.of(20, "WHEEL 1 alone beyond", slant + "way(0,-5,-4,4,4,3)=NOT seen()=1");
        Edge.of(20, "WHEEL 2 alone beyond", slant + "way(0,-4,-4,5,4,3)=NOT seen()=1");
        Edge.of(20, "WHEEL 3 alone beyond", slant + "way(0,-5,-3,5,4,3)=NOT seen()=1");
        Edge.of(20, "that HEADING", "car(2,2,1,0)=0 stand(0,0,0,0)=1 way(0,-30,-30,30,30,1)=1 step(0)=2 "
            + "way(0,-30,-30,30,30,35)=1 step(0)=6");
        Edge.of(20, "HEADINGS go round", "car(2,2,1,0)=0 stand(0,0,0,35)=1 way(0,-30,-30,30,30,1)=2 step(0)=2 "
            + "step(1)=2");
        Edge.of(20, "HEADINGS go round, the other way", "car(2,2,1,0)=0 stand(0,0,0,1)=1 way(0,-30,-30,30,30,34)=3 "
            + "step(0)=6 step(1)=6 step(2)=6");
    }

    private static void leastMoves() {
        Edge.of(20, "the fewest MOVES", LANE + "way(0,4,-2,12,2,0)=2 step(0)=0 step(1)=0 step(2)=BAD");
        Edge.of(20, "of like ones the least MOVE where they part first", "car(2,2,1,0)=0 stand(0,0,0,0)=1 "
            + "way(0,-30,-30,30,30,1)=1 step(0)=2 way(0,1,-30,30,30,1)=2 step(0)=0 step(1)=2 way(0,-30,-30,30,30,2)=2 "
            + "step(0)=2 step(1)=2");
        Edge.of(20, "MOVES that are not CLEAR are left out", CAR + "kerb(3,1,6,3)=0 kerb(-6,1,-3,3)=1 leave(0)=1 "
            + "stand(0,0,5,0)=1 meets(0,0)=0 way(0,-30,-30,30,30,1)=1 step(0)=2");
        Edge.of(20, "also over what is between, as MOVES are", LANE + "house(9,-2,10,2,9,9,0)=2 "
            + "way(0,10,-2,18,2,0)=NOT feet(14)=4 way(0,10,-2,18,2,0)=1");
        Edge.of(20, "from one that is not CLEAR", LANE + "house(-1,-1,1,1,9,9,0)=2 meets(0,10)=1002 "
            + "way(0,-4,-2,4,2,0)=0 way(0,4,-2,12,2,0)=NOT feet(8)=4 way(0,4,-2,12,2,0)=1");
        Edge.of(20, "with F as it is told", LANE + "way(0,16,-2,24,2,0)=5 feet(20)=4 way(0,16,-2,24,2,0)=1 feet(1)=20 "
            + "way(0,8,-2,16,2,0)=12");
        Edge.of(20, "another CAR in the lane", LANE + "car(4,2,10,0)=1 storey(1,9,4,2)=1 stand(1,16,0,0)=1 "
            + "way(0,4,-2,12,2,0)=2 way(0,8,-2,16,2,0)=NOT way(0,0,-2,8,2,0)=1");
        Edge.of(20, "nothing moves", LANE + "way(0,4,-2,12,2,0)=2 about(0,5)=0 about(0,8)=0");
    }

    private static void twelveMoves() {
        Edge.of(20, "12 MOVES", LANE + "way(0,44,-2,52,2,0)=12 12*step({i})=0 step(12)=BAD seen()=24");
        Edge.of(20, "12 MOVES, and the last that is counted", LANE + "way(0,-52,-2,-44,2,0)=12 12*step({i})=1 "
            + "seen()=25");
        Edge.of(20, "13 MOVES are too many", LANE + "way(0,48,-2,56,2,0)=NOT seen()=25 way(0,-56,-2,-48,2,0)=NOT "
            + "seen()=25");
    }

    private static void counted() {
        Edge.of(22, "that from which it begins is the first", LANE + "way(0,-4,-2,4,2,0)=0 seen()=1");
        Edge.of(22, "the GOAL is counted too", LANE + "way(0,0,-2,8,2,0)=1 seen()=2 way(0,-8,-2,0,2,0)=1 seen()=3 "
            + "way(0,4,-2,12,2,0)=2 seen()=4 way(0,-12,-2,-4,2,0)=2 seen()=5");
        Edge.of(22, "come to first: each is counted once", LANE + "house(10,-2,20,2,9,9,0)=2 "
            + "house(-20,-2,-10,2,9,9,0)=3 way(0,30,-2,38,2,0)=NOT seen()=3");
        Edge.of(22, "none but the first, where no MOVE is CLEAR", LANE + "house(5,-2,20,2,9,9,0)=2 "
            + "house(-20,-2,-5,2,9,9,0)=3 way(0,30,-2,38,2,0)=NOT seen()=1");
        Edge.of(22, "of the 10 MOVES each is one STANDING", "car(2,2,1,0)=0 stand(0,0,0,0)=1 way(0,-30,-30,30,30,1)=1 "
            + "seen()=4 way(0,-30,-30,30,30,35)=1 seen()=8");
    }

    private static void spent() {
        Edge.of(20, "as soon as one more would have to be counted than 1500", SMALL + "way(0,400,400,410,410,0)=SPENT "
            + "seen()=1500");
        Edge.of(20, "the 1500th is at the GOAL", SMALL + "way(0,-20,-1,-13,5,34)=4 seen()=1500");
        Edge.of(20, "the 1501st is at the GOAL: not counted", SMALL + "way(0,-19,-1,-13,5,34)=SPENT seen()=1500 "
            + "step(0)=BAD");
        Edge.of(20, "1500 and no more: there is none", YARD + "kerb(2,-2,3,-1)=0 way(0,490,490,500,500,0)=NOT "
            + "seen()=1500");
        Edge.of(20, "more than 1500", YARD + "way(0,490,490,500,500,0)=SPENT seen()=1500");
        Edge.of(20, "none is at the GOAL yet: it is found ahead of that", SMALL + "way(0,-30,-30,30,30,18)=SPENT "
            + "way(0,-30,-30,30,30,1)=1 seen()=4");
    }

    private static void steps() {
        Edge.of(21, "none before any", "step(0)=BAD step(-1)=BAD");
        Edge.of(21, "from 0 on, as many as MOVES", LANE + "way(0,-12,-2,-4,2,0)=2 step(-1)=BAD step(0)=1 step(1)=1 "
            + "step(2)=BAD step(MOST)=BAD step(LEAST)=BAD");
        Edge.of(21, "of the latest way() that told how many", LANE + "way(0,0,-2,8,2,0)=1 step(0)=0 "
            + "way(0,-8,-2,0,2,0)=1 step(0)=1");
        Edge.of(21, "not of one that was BAD", LANE + "way(0,0,-2,8,2,0)=1 way(0,8,-2,8,2,0)=BAD step(0)=0 "
            + "step(1)=BAD");
        Edge.of(21, "not of one that was NOT", LANE + "way(0,0,-2,8,2,0)=1 way(0,0,-1,8,2,0)=NOT step(0)=0");
        Edge.of(21, "not of one that STANDS nowhere", LANE + "way(0,0,-2,8,2,0)=1 leave(0)=1 way(0,-8,-2,0,2,0)=NOT "
            + "step(0)=0");
        Edge.of(21, "not of one that was SPENT", SMALL + "way(0,-2,-2,10,2,0)=0 way(0,6,-2,10,2,0)=1 step(0)=0 "
            + "way(0,400,400,410,410,0)=SPENT step(0)=0 step(1)=BAD");
        Edge.of(21, "one of no MOVES told how many", LANE + "way(0,0,-2,8,2,0)=1 way(0,-4,-2,4,2,0)=0 step(0)=BAD");
        Edge.of(21, "also of another CAR, and behind MOVES", LANE + "way(0,0,-2,8,2,0)=1 move(0,1)=1 car(2,2,1,0)=1 "
            + "step(0)=0");
    }

    private static void seen() {
        Edge.of(22, "0 before any", "seen()=0 car(2,2,1,0)=0 seen()=0 stand(0,0,0,0)=1 seen()=0");
        Edge.of(22, "not of one that was BAD", LANE + "way(0,0,-2,8,2,0)=1 seen()=2 way(0,8,-2,8,2,0)=BAD "
            + "way(1,0,-2,8,2,0)=BAD way(0,0,-2,8,2,36)=BAD seen()=2");
        Edge.of(22, "not of a CAR that STANDS nowhere", LANE + "car(2,2,1,0)=1 way(0,0,-2,8,2,0)=1 seen()=2 "
            + "way(1,0,-2,8,2,0)=NOT seen()=2");
        Edge.of(22, "of one that found none", LANE + "way(0,0,-2,8,2,0)=1 seen()=2 way(0,0,-1,8,2,0)=NOT seen()=25");
        Edge.of(22, "of one that was SPENT", SMALL + "way(0,6,-2,10,2,0)=1 seen()=2 way(0,400,400,410,410,0)=SPENT "
            + "seen()=1500");
        Edge.of(22, "of the latest alone", LANE + "way(0,0,-1,8,2,0)=NOT seen()=25 way(0,-4,-2,4,2,0)=0 seen()=1");
    }
}
