/** Promises 30 to 44. */
public final class DayTest {
    public static void main(String[] args) {
        teams();
        roster();
        blocks();
        oneCar();
        room();
        stuck();
        tasks();
        justLate();
        Due.close("DayTest");
    }

    private static void teams() {
        FloatTowers x = new FloatTowers();
        Due.is("30: 0", x.team(0), -2);
        Due.is("30: 301", x.team(301), -2);
        Due.is("31: -1", x.stage(-1), -2);
        Due.is("31: 2001", x.stage(2001), -2);
        for (int n = 0; n < 4; n++) {
            Due.is("30: team " + n, x.team(n == 0 ? 300 : 1), n);
        }
        for (int n = 0; n < 6; n++) {
            Due.is("31: stage " + n, x.stage(n == 0 ? 2000 : 0), n);
        }
        Due.is("30: full", x.team(1), -4);
        Due.is("31: full", x.stage(1), -4);
        Due.is("30: BAD ahead of FULL", x.team(0), -2);
        Due.is("31: BAD ahead of FULL", x.stage(-1), -2);
        Due.is("32: 0", x.run(0), -2);
        Due.is("32: 4", x.run(4), -2);
        Due.is("32: 2 at first", x.run(3), 2);
        Due.is("32: 3", x.run(1), 3);
        Due.is("33: there is none", x.roster(), -3);
        Due.is("34: -1", x.pulls(-1), -2);
        Due.is("34: 6", x.pulls(6), -2);
        Due.is("34: none", x.pulls(5), -3);
    }

    private static void roster() {
        FloatTowers x = new FloatTowers();
        Due.is("33: no stages", x.roster(), 0);
        Due.is("34: no stages", x.pulls(0), -2);
        x.stage(0);
        Due.is("33: nobody is needed", x.roster(), 0);
        Due.is("34: nobody", x.pulls(0), 0);
        x.stage(10);
        Due.is("33: no teams", x.roster(), -3);
        x.team(5);
        x.team(10);
        x.team(10);
        Due.is("33: one", x.roster(), 1);
        Due.is("34: the least of those", x.pulls(1), 2);
        x.stage(10);
        x.stage(10);
        Due.is("33: four", x.roster(), 3);
        // Two of team 1, then it rests.
        Due.is("34: team 1", x.pulls(1), 2);
        Due.is("34: team 1 again", x.pulls(2), 2);
        Due.is("34: team 2", x.pulls(3), 4);
        x.run(3);
        Due.is("34: team 1 a third time", x.pulls(3), 2);
        x.run(1);
        Due.is("34: team 2 between", x.pulls(2), 4);
        Due.is("34: team 1", x.pulls(3), 2);
        x.stage(25);
        Due.is("33: all three, but one rests before", x.roster(), -3);
        x.run(2);
        Due.is("33: six", x.roster(), 6);
        Due.is("34: team 1 pulls in stage 1 and 2", x.pulls(2), 2);
        Due.is("34: team 2 pulls in 3, then all", x.pulls(4), 7);
        x.stage(20);
        Due.is("33: teams 1 and 2 in 4 and 5, so neither in 3", x.roster(), -3);
        x.team(10);
        Due.is("33: 3 and 3 and 2", x.roster(), 8);
        Due.is("34: team 2 in 3", x.pulls(3), 4);
        Due.is("34: of 25 the least", x.pulls(4), 7);
        Due.is("34: then team 2 rests", x.pulls(5), 10);
    }

    private static void blocks() {
        FloatTowers x = new FloatTowers();
        Due.is("35: -1", x.block(-1, 1, true), -2);
        Due.is("35: 20", x.block(20, 1, true), -2);
        Due.is("35: 0 minutes", x.block(0, 0, true), -2);
        Due.is("35: 61 minutes", x.block(0, 61, true), -2);
        Due.is("36: from 19", x.enter(19, 0, 0), 0);
        Due.is("38: one", x.home(), 1);
        Due.is("35: least", x.block(0, 1, true), 1);
        Due.is("35: most", x.block(19, 60, false), 1);
        Due.is("36: from -1", x.enter(-1, 1, 0), -2);
        Due.is("36: from 20", x.enter(20, 1, 0), -2);
        Due.is("36: to -1", x.enter(1, -1, 0), -2);
        Due.is("36: to 20", x.enter(1, 20, 0), -2);
        Due.is("36: the same", x.enter(1, 1, 0), -2);
        Due.is("36: minute -1", x.enter(1, 2, -1), -2);
        Due.is("36: minute 1000", x.enter(1, 2, 1000), -2);
        Due.is("37: none there", x.stuck(0, 0, 1), -2);
        Due.is("38: none", x.home(), 0);
        for (int n = 0; n < 4; n++) {
            Due.is("36: car " + n, x.enter(0, 19, 999), n);
        }
        Due.is("36: full", x.enter(0, 19, 999), -4);
        Due.is("36: BAD ahead of FULL", x.enter(0, 0, 0), -2);
        Due.is("37: -1", x.stuck(-1, 0, 1), -2);
        Due.is("37: 4", x.stuck(4, 0, 1), -2);
        Due.is("37: from -1", x.stuck(0, -1, 1), -2);
        Due.is("37: to 2001", x.stuck(0, 0, 2001), -2);
        Due.is("37: from as to", x.stuck(0, 9, 9), -2);
        Due.is("37: from above to", x.stuck(0, 9, 8), -2);
        Due.is("37: all day", x.stuck(0, 0, 2000), 1);
        Due.is("55: cars", x.count(6), 4);
        Due.is("39: -1", x.gone(-1), -2);
        Due.is("39: 4", x.gone(4), -2);
        Due.is("40: car 4", x.where(4, 0), -2);
        Due.is("40: minute -1", x.where(0, -1), -2);
        Due.is("40: minute 2001", x.where(0, 2001), -2);
        Due.is("40: stuck", x.where(0, 1999), 100);
        Due.is("40: no longer stuck in the last minute", x.where(0, 2000), 0);
        Due.is("38: four", x.home(), 4);
        Due.is("39: none", x.gone(0), -2);
        Due.is("36: the first anew", x.enter(0, 1, 5), 0);
        Due.is("39: it isn't stuck: 5 and 1 and 10", x.gone(0), 16);
    }

    private static void oneCar() {
        FloatTowers x = new FloatTowers();
        x.enter(3, 1, 7);
        x.block(2, 4, false);
        Due.is("40: ahead of its minute", x.where(0, 6), 100);
        Due.is("40: in its minute", x.where(0, 7), 3);
        Due.is("40: to the end of block 3", x.where(0, 16), 3);
        Due.is("40: block 2", x.where(0, 17), 2);
        Due.is("40: block 1", x.where(0, 21), 1);
        Due.is("40: to the end", x.where(0, 30), 1);
        Due.is("40: gone", x.where(0, 31), 101);
        Due.is("39: gone", x.gone(0), 31);
        x.block(1, 60, false);
        Due.is("39: later", x.gone(0), 81);
        x.home();
        for (int b = 0; b < 20; b++) {
            x.block(b, 60, false);
        }
        x.enter(0, 19, 801);
        Due.is("39: not by 2000", x.gone(0), -1);
        Due.is("40: in the last block", x.where(0, 2000), 19);
        x.home();
        x.enter(0, 19, 800);
        Due.is("39: just in 2000", x.gone(0), 2000);
        Due.is("40: gone", x.where(0, 2000), 101);
    }

    private static void room() {
        FloatTowers x = new FloatTowers();
        x.enter(0, 2, 0);
        x.enter(0, 2, 0);
        Due.is("40: no room", x.where(1, 0), 100);
        Due.is("40: car 0 goes on first, car 1 comes", x.where(1, 10), 0);
        Due.is("39: behind it", x.gone(1), 40);
        Due.is("39: first", x.gone(0), 30);
        x.home();
        // The lesser number looks first: car 0 waits in block 0 until car 1 left block 1 a minute before.
        x.enter(0, 2, 0);
        x.enter(1, 2, 0);
        x.block(2, 12, false);
        Due.is("40: car 1 is still there for car 0", x.where(0, 10), 0);
        Due.is("40: a minute later", x.where(0, 11), 1);
        Due.is("39: car 1: 10 and 12", x.gone(1), 22);
        Due.is("40: car 0 as many minutes or more", x.where(0, 22), 1);
        Due.is("40: on", x.where(0, 23), 2);
        x.home();
        x.enter(0, 1, 0);
        x.enter(1, 0, 0);
        Due.is("39: face to face", x.gone(0), -1);
        Due.is("39: face to face", x.gone(1), -1);
        x.block(0, 10, true);
        Due.is("39: a side lane: car 1 comes past, at 10", x.gone(1), 20);
        Due.is("39: and car 0 a minute behind", x.gone(0), 21);
        x.enter(0, 1, 0);
        x.enter(0, 1, 0);
        Due.is("40: two have room", x.where(2, 0), 0);
        Due.is("40: a third doesn't", x.where(3, 0), 100);
        x.block(0, 10, false);
        Due.is("40: without it none", x.where(2, 0), 100);
    }

    private static void stuck() {
        FloatTowers x = new FloatTowers();
        x.enter(0, 1, 5);
        x.stuck(0, 5, 8);
        Due.is("40: stuck outside", x.where(0, 7), 100);
        Due.is("40: comes", x.where(0, 8), 0);
        Due.is("39: 8 and 20", x.gone(0), 28);
        x.stuck(0, 10, 30);
        Due.is("40: a later one in place of the former", x.where(0, 5), 0);
        Due.is("40: stuck", x.where(0, 29), 0);
        Due.is("40: goes on", x.where(0, 30), 1);
        Due.is("39: 30 and 10", x.gone(0), 40);
        x.stuck(0, 25, 26);
        Due.is("39: not gone in it", x.gone(0), 26);
        x.stuck(0, 24, 25);
        Due.is("39: over by then", x.gone(0), 25);
        x.stuck(0, 25, 2000);
        Due.is("39: in the last minute", x.gone(0), 2000);
    }

    private static void justLate() {
        FloatTowers x = new FloatTowers();
        x.task(1, 0);
        x.task(200, 2000);
        Due.is("44: by a minute, the first call", x.latest(1), 1);
        Due.is("44: a minute", x.latest(0), 1);
        x.task(1, 2);
        Due.is("44: just in time, looked at anew", x.latest(1), 1);
        Due.is("43: 202 - 2000", x.late(1), -1798);
    }

    private static void tasks() {
        FloatTowers x = new FloatTowers();
        Due.is("41: 0 minutes", x.task(0, 0), -2);
        Due.is("41: 201 minutes", x.task(201, 0), -2);
        Due.is("41: due -1", x.task(1, -1), -2);
        Due.is("41: due 2001", x.task(1, 2001), -2);
        Due.is("42: 0", x.crews(0), -2);
        Due.is("42: 5", x.crews(5), -2);
        Due.is("43: none", x.late(0), -10000);
        Due.is("44: none", x.latest(0), 0);
        Due.is("44: none", x.latest(1), 0);
        Due.is("44: what 2", x.latest(2), -2);
        Due.is("44: what -1", x.latest(-1), -2);
        x.task(50, 100);
        x.task(30, 40);
        x.task(20, 40);
        x.task(200, 2000);
        Due.is("43: behind 30 and 20", x.late(0), 0);
        Due.is("43: of like ones the least first", x.late(1), -10);
        Due.is("43: then the other", x.late(2), 10);
        Due.is("43: early", x.late(3), 300 - 2000);
        Due.is("44: greatest", x.latest(0), 10);
        Due.is("44: one", x.latest(1), 1);
        Due.is("42: 1 at first", x.crews(2), 1);
        // Crew 1 is free at 20, so task 0 ends at 70; crew 0 is free at 30, so task 3 ends at 230.
        Due.is("43: crew 1", x.late(0), -30);
        Due.is("43: crew 0", x.late(3), 230 - 2000);
        Due.is("44: never below 0", x.latest(0), 0);
        Due.is("44: none is late", x.latest(1), 0);
        Due.is("42: 2", x.crews(4), 2);
        Due.is("43: a crew of its own", x.late(3), 200 - 2000);
        Due.is("42: 4", x.crews(1), 4);
        x.crews(4);
        Due.is("43: -1", x.late(-1), -10000);
        Due.is("43: 4", x.late(4), -10000);
        for (int n = 4; n < 12; n++) {
            Due.is("41: task " + n, x.task(200, 0), n);
        }
        Due.is("41: full", x.task(1, 1), -4);
        Due.is("41: BAD ahead of FULL", x.task(0, 1), -2);
        Due.is("44: 8 of 200 by 4 crews, then 30 and 20", x.latest(1), 11);
        Due.is("44: 400 + 50 - 100", x.late(0), 350);
        Due.is("44: 400 - 0", x.latest(0), 400);
    }
}
