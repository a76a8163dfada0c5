/** The sentences of promises 30 to 44, and of the terms for them, that name a boundary: one case for each. */
public final class DayEdgesTest {
    public static void main(String[] args) {
        team();
        stage();
        run();
        roster();
        leastBits();
        pulls();
        block();
        enter();
        minutes();
        roomForOne();
        sideLane();
        stuck();
        home();
        gone();
        where();
        task();
        crews();
        late();
        latest();
        Edge.close("DayEdgesTest", 30, 44);
    }

    private static void team() {
        Edge.of(30, "HANDS 1 to 300", "team(0)=BAD team(1)=0 team(300)=1 team(301)=BAD team(-1)=BAD team(MOST)=BAD "
            + "team(LEAST)=BAD count(10)=2");
        Edge.of(30, "4 at most", "4*team(1)={i} team(1)=FULL count(10)=4");
        Edge.of(30, "BAD goes ahead of FULL", "4*team(1)={i} team(0)=BAD team(301)=BAD");
    }

    private static void stage() {
        Edge.of(31, "a NEED of 0 to 2000", "stage(-1)=BAD stage(0)=0 stage(2000)=1 stage(2001)=BAD stage(MOST)=BAD "
            + "stage(LEAST)=BAD count(11)=2");
        Edge.of(31, "6 at most", "6*stage(0)={i} stage(0)=FULL count(11)=6");
        Edge.of(31, "BAD goes ahead of FULL", "6*stage(0)={i} stage(-1)=BAD stage(2001)=BAD");
    }

    private static void run() {
        Edge.of(32, "1 to 3, 2 at first", "run(0)=BAD run(1)=2 run(3)=1 run(4)=BAD run(MOST)=BAD run(LEAST)=BAD "
            + "run(3)=3");
        Edge.of(32, "RUN 1: a TEAM rests behind each STAGE", "team(9)=0 2*stage(9)={i} run(1)=2 roster()=NOT "
            + "team(9)=1 roster()=2 pulls(0)=1 pulls(1)=2");
        Edge.of(32, "RUN 2: two, and not three", "team(9)=0 2*stage(9)={i} roster()=2 stage(9)=2 roster()=NOT");
        Edge.of(32, "RUN 3: three, and not four", "team(9)=0 3*stage(9)={i} run(3)=2 roster()=3 stage(9)=3 "
            + "roster()=NOT");
        Edge.of(32, "one behind the other: not with a rest between", "team(9)=0 2*stage(9)={i} stage(0)=2 stage(9)=3 "
            + "stage(9)=4 roster()=4 pulls(2)=0");
    }

    private static void roster() {
        Edge.of(33, "no STAGES", "roster()=0 team(9)=0 roster()=0");
        Edge.of(33, "no TEAMS: a NEED of 0", "stage(0)=0 roster()=0 pulls(0)=0");
        Edge.of(33, "no TEAMS: a NEED of 1", "stage(1)=0 roster()=NOT pulls(0)=NOT");
        Edge.of(33, "HANDS are at least its NEED: just as many", "team(7)=0 stage(7)=0 roster()=1");
        Edge.of(33, "HANDS are at least its NEED: 1 too few", "team(7)=0 stage(8)=0 roster()=NOT");
        Edge.of(33, "all TEAMS together: 1200", "4*team(300)={i} stage(1200)=0 roster()=4 pulls(0)=15");
        Edge.of(33, "more than all TEAMS", "4*team(300)={i} stage(1201)=0 roster()=NOT stage(2000)=1 roster()=NOT");
        Edge.of(33, "none that isn't needed", "4*team(300)={i} stage(0)=0 stage(1)=1 roster()=1 pulls(0)=0 pulls(1)=1");
        Edge.of(33, "the fewest TEAMS, not the fewest HANDS", "team(5)=0 team(5)=1 team(300)=2 stage(10)=0 roster()=1 "
            + "pulls(0)=4");
        Edge.of(33, "a TEAM in a STAGE counts 1", "team(9)=0 2*stage(9)={i} stage(0)=2 stage(9)=3 roster()=3");
        Edge.of(33, "the fewest of all STAGES together: an earlier one takes more", "team(6)=0 team(5)=1 team(5)=2 "
            + "run(1)=2 stage(5)=0 stage(6)=1 stage(10)=2 roster()=4 pulls(0)=2 pulls(1)=1 pulls(2)=6");
        Edge.of(33, "it is looked for anew behind each change", "team(9)=0 stage(9)=0 roster()=1 stage(9)=1 "
            + "roster()=2 run(1)=2 roster()=NOT team(9)=1 roster()=2 run(2)=1 pulls(1)=1");
        Edge.of(33, "6 STAGES of 4 TEAMS", "4*team(10)={i} 6*stage(20)={i} run(1)=2 roster()=12 pulls(0)=3 "
            + "pulls(1)=12 pulls(5)=12 run(3)=1 pulls(2)=3 pulls(3)=12");
    }

    private static void leastBits() {
        Edge.of(33, "of like ones the least STAGE 0 as bits", "3*team(9)={i} stage(9)=0 roster()=1 pulls(0)=1");
        Edge.of(33, "then STAGE 1", "3*team(9)={i} 2*stage(9)={i} run(1)=2 roster()=2 pulls(0)=1 pulls(1)=2");
        Edge.of(33, "STAGE 0 goes ahead of STAGE 1", "team(9)=0 team(5)=1 run(1)=2 stage(5)=0 stage(5)=1 roster()=2 "
            + "pulls(0)=1 pulls(1)=2");
        Edge.of(33, "no less bits that hinder a later STAGE", "team(9)=0 team(5)=1 run(1)=2 stage(5)=0 stage(9)=1 "
            + "roster()=2 pulls(0)=2 pulls(1)=1");
    }

    private static void pulls() {
        Edge.of(34, "no such STAGE", "pulls(0)=BAD team(9)=0 stage(9)=0 pulls(0)=1 pulls(1)=BAD pulls(-1)=BAD "
            + "pulls(MOST)=BAD pulls(LEAST)=BAD");
        Edge.of(34, "there is no ROSTER", "team(9)=0 stage(9)=0 stage(10)=1 pulls(0)=NOT pulls(1)=NOT pulls(2)=BAD");
        Edge.of(34, "without a call of roster()", "team(9)=0 stage(9)=0 pulls(0)=1");
        Edge.of(34, "the last of 6", "team(9)=0 6*stage({i})={i} run(3)=2 pulls(5)=NOT pulls(6)=BAD team(9)=1 "
            + "pulls(5)=1 pulls(6)=BAD");
        Edge.of(34, "TEAM 3 is bit 8", "3*team(1)={i} team(9)=3 stage(9)=0 pulls(0)=8");
    }

    private static void block() {
        Edge.of(35, "BLOCKS 0 to 19", "block(-1,9,true)=BAD block(0,9,true)=1 block(19,9,true)=1 block(20,9,true)=BAD "
            + "block(MOST,9,true)=BAD block(LEAST,9,true)=BAD");
        Edge.of(35, "MINUTES 1 to 60", "block(0,0,true)=BAD block(0,1,true)=1 block(0,60,true)=1 block(0,61,true)=BAD "
            + "block(0,MOST,true)=BAD block(0,LEAST,true)=BAD");
        Edge.of(35, "10 at first", "enter(0,1,0)=0 gone(0)=20");
        Edge.of(35, "1 and 60", "enter(0,1,0)=0 block(0,1,false)=1 gone(0)=11 block(1,60,false)=1 gone(0)=61");
        Edge.of(35, "without a SIDE LANE at first", "2*enter(0,1,0)={i} where(1,0)=100 block(0,10,true)=1 "
            + "where(1,0)=0 block(0,10,false)=1 where(1,0)=100");
        Edge.of(35, "it stays behind home()", "block(0,1,false)=1 home()=0 enter(0,1,0)=0 gone(0)=11");
    }

    private static void enter() {
        Edge.of(36, "a START BLOCK of 0 to 19", "enter(-1,5,0)=BAD enter(0,5,0)=0 enter(19,5,0)=1 enter(20,5,0)=BAD "
            + "enter(MOST,5,0)=BAD enter(LEAST,5,0)=BAD count(6)=2");
        Edge.of(36, "an END BLOCK of 0 to 19", "enter(5,-1,0)=BAD enter(5,0,0)=0 enter(5,19,0)=1 enter(5,20,0)=BAD "
            + "enter(5,MOST,0)=BAD enter(5,LEAST,0)=BAD count(6)=2");
        Edge.of(36, "not the same", "enter(5,5,0)=BAD enter(0,0,0)=BAD enter(5,6,0)=0 enter(5,4,0)=1");
        Edge.of(36, "a minute of 0 to 999", "enter(0,1,-1)=BAD enter(0,1,0)=0 enter(0,1,999)=1 enter(0,1,1000)=BAD "
            + "enter(0,1,MOST)=BAD enter(0,1,LEAST)=BAD count(6)=2");
        Edge.of(36, "up to 4", "4*enter(0,1,0)={i} enter(0,1,0)=FULL count(6)=4");
        Edge.of(36, "BAD goes ahead of FULL", "4*enter(0,1,0)={i} enter(1,1,0)=BAD enter(0,20,0)=BAD "
            + "enter(0,1,1000)=BAD");
        Edge.of(36, "above", "enter(0,2,0)=0 where(0,10)=1 where(0,20)=2 gone(0)=30");
        Edge.of(36, "below", "enter(2,0,0)=0 where(0,10)=1 where(0,20)=0 gone(0)=30");
    }

    private static void minutes() {
        Edge.of(40, "from its minute on", "enter(3,4,7)=0 where(0,6)=100 where(0,7)=3");
        Edge.of(40, "a minute of 0", "enter(3,4,0)=0 where(0,0)=3");
        Edge.of(40, "as many minutes as its BLOCK has", "enter(3,4,7)=0 where(0,16)=3 where(0,17)=4 where(0,26)=4 "
            + "where(0,27)=101 gone(0)=27");
        Edge.of(40, "or more", "2*enter({i},2,0)={i} block(1,30,false)=1 where(0,29)=0 where(0,30)=0 where(0,31)=1 "
            + "where(1,30)=2");
        Edge.of(40, "CARS by numbers: a lesser one looks ahead of a greater", "2*enter({i},2,0)={i} where(0,10)=0 "
            + "where(1,10)=2 where(0,11)=1");
        Edge.of(40, "CARS by numbers: a greater one looks behind", "enter(1,2,0)=0 enter(0,2,0)=1 where(1,9)=0 "
            + "where(1,10)=1");
        Edge.of(40, "each once a minute", "enter(0,2,0)=0 block(0,1,false)=1 block(1,1,false)=1 where(0,0)=0 "
            + "where(0,1)=1 where(0,2)=2");
        Edge.of(40, "its minutes count from when it came", "2*enter(0,1,0)={i} where(1,9)=100 where(1,10)=0 "
            + "where(1,19)=0 where(1,20)=1");
    }

    private static void roomForOne() {
        Edge.of(40, "room for one CAR to come", "2*enter(0,1,5)={i} where(0,5)=0 where(1,5)=100 where(1,14)=100 "
            + "where(1,15)=0");
        Edge.of(40, "room for one CAR to go on", "enter(0,2,0)=0 enter(1,2,0)=1 block(1,60,false)=1 where(0,60)=0 "
            + "where(0,61)=1");
        Edge.of(39, "out of its END BLOCK there is always room", "2*enter(0,1,0)={i} gone(0)=20 gone(1)=30");
        Edge.of(39, "face to face they never pass", "enter(0,1,0)=0 enter(1,0,0)=1 gone(0)=NONE gone(1)=NONE "
            + "where(0,2000)=0 where(1,2000)=1");
    }

    private static void sideLane() {
        Edge.of(40, "with a SIDE LANE for two", "3*enter(0,1,0)={i} block(0,10,true)=1 where(0,0)=0 where(1,0)=0 "
            + "where(2,0)=100 where(2,9)=100 where(2,10)=0");
        Edge.of(40, "for two that go on into it", "enter(0,2,0)=0 enter(1,0,0)=1 block(1,60,true)=1 where(0,10)=1 "
            + "where(1,10)=1");
        Edge.of(39, "where they pass", "enter(0,1,0)=0 enter(1,0,0)=1 block(0,10,true)=1 gone(1)=20 gone(0)=21");
    }

    private static void stuck() {
        Edge.of(37, "a minute of 0 to 2000", "enter(0,1,0)=0 stuck(0,-1,5)=BAD stuck(0,0,5)=1 stuck(0,5,2001)=BAD "
            + "stuck(0,1999,2000)=1 stuck(0,LEAST,5)=BAD stuck(0,5,MOST)=BAD stuck(0,2000,2001)=BAD");
        Edge.of(37, "the second above the first", "enter(0,1,0)=0 stuck(0,5,5)=BAD stuck(0,6,5)=BAD "
            + "stuck(0,2000,2000)=BAD gone(0)=20 stuck(0,5,6)=1");
        Edge.of(37, "no such CAR", "stuck(0,0,5)=BAD enter(0,1,0)=0 stuck(1,0,5)=BAD stuck(-1,0,5)=BAD "
            + "stuck(MOST,0,5)=BAD");
        Edge.of(37, "from a minute on: it does not come in it", "enter(0,1,5)=0 stuck(0,5,6)=1 where(0,5)=100 "
            + "where(0,6)=0");
        Edge.of(37, "from a minute on: ahead of it it comes", "enter(0,1,4)=0 stuck(0,5,60)=1 where(0,4)=0 "
            + "where(0,59)=0");
        Edge.of(37, "to the one ahead of another: in that it goes on", "enter(0,1,0)=0 stuck(0,10,15)=1 where(0,14)=0 "
            + "where(0,15)=1");
        Edge.of(37, "nor is it GONE", "enter(0,1,0)=0 stuck(0,20,25)=1 where(0,24)=1 gone(0)=25");
        Edge.of(37, "over by then", "enter(0,1,0)=0 stuck(0,11,20)=1 gone(0)=20");
        Edge.of(37, "its minutes in the BLOCK count on", "enter(0,1,0)=0 stuck(0,2,9)=1 gone(0)=20");
        Edge.of(37, "to 2000: in 2000 it goes on", "enter(0,1,0)=0 stuck(0,15,2000)=1 gone(0)=2000 where(0,1999)=1 "
            + "where(0,2000)=101");
        Edge.of(37, "a later one in place of the former", "enter(0,1,0)=0 stuck(0,10,50)=1 gone(0)=60 "
            + "stuck(0,100,110)=1 gone(0)=20");
        Edge.of(37, "a refused one leaves the former", "enter(0,1,0)=0 stuck(0,10,50)=1 stuck(0,60,50)=BAD gone(0)=60");
        Edge.of(37, "one that is STUCK keeps its room", "2*enter(0,1,0)={i} stuck(0,0,1)=1 where(0,0)=100 "
            + "where(1,0)=0 where(0,10)=100 where(0,11)=0");
    }

    private static void home() {
        Edge.of(38, "how many there were", "home()=0 4*enter(0,1,0)={i} home()=4 home()=0 count(6)=0");
        Edge.of(38, "no CARS: none to ask", "enter(0,1,0)=0 home()=1 gone(0)=BAD where(0,0)=BAD stuck(0,0,5)=BAD");
        Edge.of(38, "room for 4 again", "4*enter(0,1,0)={i} enter(0,1,0)=FULL home()=4 4*enter(0,1,0)={i}");
        Edge.of(38, "none that come later are STUCK", "enter(0,1,0)=0 stuck(0,0,90)=1 home()=1 enter(0,1,0)=0 "
            + "gone(0)=20");
    }

    private static void gone() {
        Edge.of(39, "no such CAR", "gone(0)=BAD enter(0,1,0)=0 gone(0)=20 gone(1)=BAD gone(-1)=BAD gone(MOST)=BAD "
            + "gone(LEAST)=BAD");
        // 20 BLOCKS of 60 are 1200 minutes.
        Edge.of(39, "to minute 2000", "20*block({i},60,false)=1 enter(0,19,800)=0 gone(0)=2000");
        Edge.of(39, "not by 2000: NONE", "20*block({i},60,false)=1 enter(0,19,801)=0 gone(0)=NONE where(0,2000)=19");
        Edge.of(39, "one that can't come in all the day", "enter(0,1,0)=0 enter(1,0,0)=1 enter(0,19,0)=2 gone(2)=NONE "
            + "where(2,2000)=100");
    }

    private static void where() {
        Edge.of(40, "no such CAR", "where(0,0)=BAD enter(0,1,0)=0 where(1,0)=BAD where(-1,0)=BAD where(MOST,0)=BAD");
        Edge.of(40, "the last of 4", "4*enter(0,1,0)={i} where(3,30)=0 where(4,30)=BAD gone(3)=50 gone(4)=BAD "
            + "stuck(4,0,1)=BAD stuck(3,0,1)=1");
        Edge.of(40, "a minute of 0 to 2000", "enter(0,1,0)=0 where(0,-1)=BAD where(0,0)=0 where(0,2000)=101 "
            + "where(0,2001)=BAD where(0,MOST)=BAD where(0,LEAST)=BAD");
        Edge.of(40, "when all have gone on in it", "enter(1,2,0)=0 enter(0,2,0)=1 where(0,10)=2 where(1,10)=1");
        Edge.of(40, "100: not yet there, 101: GONE", "enter(19,18,1)=0 where(0,0)=100 where(0,1)=19 where(0,20)=18 "
            + "where(0,21)=101");
        Edge.of(40, "an earlier minute may be asked later", "enter(0,1,0)=0 where(0,2000)=101 where(0,5)=0 gone(0)=20 "
            + "where(0,15)=1");
    }

    private static void task() {
        Edge.of(41, "MINUTES 1 to 200", "task(0,5)=BAD task(1,5)=0 task(200,5)=1 task(201,5)=BAD task(MOST,5)=BAD "
            + "task(LEAST,5)=BAD count(7)=2");
        Edge.of(41, "DUE 0 to 2000", "task(5,-1)=BAD task(5,0)=0 task(5,2000)=1 task(5,2001)=BAD task(5,MOST)=BAD "
            + "task(5,LEAST)=BAD count(7)=2");
        Edge.of(41, "12 at most", "12*task(1,1)={i} task(1,1)=FULL count(7)=12");
        Edge.of(41, "BAD goes ahead of FULL", "12*task(1,1)={i} task(0,1)=BAD task(1,2001)=BAD");
    }

    private static void crews() {
        Edge.of(42, "1 to 4, 1 at first", "crews(0)=BAD crews(1)=1 crews(4)=1 crews(5)=BAD crews(MOST)=BAD "
            + "crews(LEAST)=BAD crews(4)=4");
        Edge.of(42, "1: one behind the other", "5*task(10,100)={i} late(4)=-50");
        Edge.of(42, "4: the fifth waits", "5*task(10,100)={i} crews(4)=1 late(3)=-90 late(4)=-80");
        Edge.of(42, "more CREWS than TASKS", "task(10,100)=0 crews(4)=1 late(0)=-90");
    }

    private static void late() {
        Edge.of(43, "no such TASK", "late(0)=-10000 task(5,5)=0 late(0)=0 late(1)=-10000 late(-1)=-10000 "
            + "late(MOST)=-10000 late(LEAST)=-10000");
        Edge.of(43, "0: just in time; below 0: so early", "task(5,5)=0 late(0)=0 task(5,11)=1 late(1)=-1 task(5,14)=2 "
            + "late(2)=1");
        Edge.of(43, "the least and the most", "task(1,2000)=0 late(0)=-1999 11*task(200,0)={i+1} late(11)=2200 "
            + "late(0)=201");
        Edge.of(43, "in order of DUE: to the last of 2000", "task(5,10)=0 task(7,2000)=1 late(1)=-1988 task(3,2000)=2 "
            + "late(2)=-1985");
        Edge.of(43, "the last of 12", "12*task(10,100)={i} late(11)=20 late(12)=-10000");
        Edge.of(43, "in order of DUE", "task(10,30)=0 task(20,20)=1 task(40,10)=2 late(2)=30 late(1)=40 late(0)=40");
        Edge.of(43, "of like DUE the least number", "task(10,30)=0 task(20,30)=1 task(40,30)=2 late(0)=-20 late(1)=0 "
            + "late(2)=40");
        Edge.of(43, "the CREW that is free first", "task(30,1)=0 task(10,2)=1 task(5,3)=2 task(20,4)=3 crews(2)=1 "
            + "late(2)=12 late(3)=31");
        Edge.of(43, "of like CREWS the least, which shows in no LATE", "4*task(10,50)={i} crews(2)=1 late(0)=-40 "
            + "late(1)=-40 late(2)=-30 late(3)=-30");
        Edge.of(43, "a TASK may be ended ahead of one of earlier DUE", "task(100,1)=0 task(10,2)=1 crews(2)=1 "
            + "late(0)=99 late(1)=8");
    }

    private static void latest() {
        Edge.of(44, "what is 0 or 1", "latest(0)=0 latest(1)=0 latest(2)=BAD latest(-1)=BAD latest(MOST)=BAD "
            + "latest(LEAST)=BAD");
        Edge.of(44, "0 at least", "task(5,9)=0 late(0)=-4 latest(0)=0 latest(1)=0");
        Edge.of(44, "one that is just in time is not LATE", "task(5,5)=0 latest(0)=0 latest(1)=0");
        Edge.of(44, "one that is LATE by 1", "task(5,4)=0 latest(0)=1 latest(1)=1");
        Edge.of(44, "how many, asked ahead of all else", "task(5,4)=0 latest(1)=1 task(9,4)=1 latest(1)=2 crews(2)=1 "
            + "latest(0)=5");
        Edge.of(44, "the greatest of all, and how many", "task(50,10)=0 task(5,20)=1 task(5,100)=2 task(5,61)=3 "
            + "latest(0)=40 latest(1)=2 crews(4)=1 latest(0)=40 latest(1)=1");
    }
}
