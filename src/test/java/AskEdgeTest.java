import java.util.function.Supplier;

/**
 * Promises 7 to 34, what can be asked and what would be: a test for each sentence that names an edge; the sentence
 * stands above it.
 */
public final class AskEdgeTest {
    private static final String FIVE = "period moves 0 time 5;";

    private AskEdgeTest() {
    }

    public static void main(String[] args) {
        stateAndResult();
        extrasSessionAndClaims();
        firstFlag();
        movesToTheEndOfAPeriod();
        ticksToTheFlag();
        delayThatIsLeft();
        shownAndWrittenRoundedUp();
        aheadOrBehind();
        paceFrom1To9999();
        paceThatIsNone();
        paceAnew();
        lastsUpTo200();
        lastsOfAFallenFlag();
        meanAsDoubles();
        shareAtTheTime0();
        leftIn0And9999();
        leftInAnotherState();
        overInAndNone();
        sealInAndNone();
        endsIn400Moves();
        endsAtOnceOrByTheThink();
        endsByAFlagThatHasNotFallen();
        endsAsIfFlagsWereNotClaimed();
        movesInTicks();
        movesInLessIfAFlagFalls();
        withinTicks();
        paceForMoves();
        needsFrom0To99999();
        aheadAfterMoves();
        whatWouldBeInAnotherState();
        noneChangesAnything();
        Check.end("AskEdgeTest");
    }

    // 0 the state; .. 11 the result, NONE if the game is not over
    private static void stateAndResult() {
        GameClock clock = Check.loaded(FIVE + "session 1;");
        Check.same("7 not begun", clock.property(0), 0);
        clock.start();
        Check.same("7 running", clock.property(0), 1);
        clock.tick(1);
        clock.pause();
        Check.same("7 paused", clock.property(0), 2);
        clock.proceed();
        Check.same("7 running again", clock.property(0), 1);
        clock.seal();
        Check.same("7 adjourned", clock.property(0), 3);
        Check.same("7 no result", clock.property(11), -1);
        clock.open();
        Check.same("7 no result", clock.property(11), -1);
        clock.resign(0);
        Check.same("7 over", clock.property(0), 4);
        Check.same("7 the result", clock.property(11), 1);
        clock.undo();
        Check.same("7 no result any more", clock.property(11), -1);
    }

    // 3 extra periods of each side at first; 4 their time (0 without); 5 the length of a session, NONE without one
    private static void extrasSessionAndClaims() {
        GameClock clock = Check.begun(FIVE + "extra 2 time 3;session 9;");
        clock.tick(7);
        Check.same("9 one is left", clock.side(0, 4), 1);
        Check.same("7 two at first", clock.property(3), 2);
        Check.same("7 their time", clock.property(4), 3);
        Check.same("7 the session", clock.property(5), 9);
        Check.same("7 no claims", clock.property(10), 0);
        clock.setClaims(true);
        Check.same("7 claims", clock.property(10), 1);
        Check.load(clock, FIVE);
        Check.same("7 none", clock.property(3), 0);
        Check.same("7 no time", clock.property(4), 0);
        Check.same("7 no session", clock.property(5), -1);
        Check.same("7 no claims", clock.property(10), 0);
        clock.start();
        clock.tick(3);
        Check.same("7 the time", clock.property(7), 3);
        Check.same("7 the time, without a session", clock.property(6), 3);
    }

    // 9 the side whose flag fell first, NONE if none fell
    private static void firstFlag() {
        for (int first = 0; first < 2; first++) {
            GameClock clock = Check.begun(FIVE + "claims;");
            if (first == 1) {
                clock.move();
            }
            clock.tick(4);
            Check.same("7 none fell", clock.property(9), -1);
            clock.tick(1);
            Check.same("7 the first", clock.property(9), first);
            clock.move();
            clock.tick(5);
            Check.same("7 both fell", clock.side(0, 8) + clock.side(1, 8), 2);
            Check.same("7 the first still", clock.property(9), first);
            clock.undo();
            clock.undo();
            clock.undo();
            Check.same("7 none behind undo()", clock.property(9), -1);
        }
        Check.same("7 none by resigning", resigned().property(9), -1);
    }

    private static GameClock resigned() {
        GameClock clock = Check.begun(FIVE);
        clock.resign(0);
        return clock;
    }

    // 11 how many moves it has to make up to the end of this period, NONE if its moves are 0
    private static void movesToTheEndOfAPeriod() {
        GameClock clock = Check.begun("period moves 3 time 50;period moves 0 time 50;");
        int[] due = {3, 2, 1, -1, -1};
        for (int moves = 0; moves < due.length; moves++) {
            Check.same("9 white behind " + moves, clock.side(0, 11), due[moves]);
            Check.same("9 black behind " + moves, clock.side(1, 11), due[moves]);
            clock.move();
            clock.move();
        }
    }

    // how many ticks its clock would have to run on until its flag falls, in this move; 0 if it fell already
    private static void ticksToTheFlag() {
        String[] texts = {FIVE, "period moves 0 time 1;", "period moves 0 time 5 delay 3;", FIVE + "extra 9 time 7;",
            "period moves 1 time 5 delay 4;period moves 0 time 1;extra 9 time 7;",
            "period moves 1 time 99999 delay 999;"};
        int[] due = {5, 1, 8, 5 + 63, 9, 100998};
        for (int i = 0; i < texts.length; i++) {
            GameClock clock = Check.begun(texts[i] + "claims;");
            Check.same("11 of " + texts[i], clock.flagIn(0), due[i]);
            Check.same("11 the other side", clock.flagIn(1), due[i]);
            int left = due[i];
            while (left > 1) {
                int ticks = Math.min(9999, left - 1);
                clock.tick(ticks);
                left -= ticks;
                Check.same("11 less", clock.flagIn(0), left);
            }
            Check.same("9 no flag", clock.side(0, 8), 0);
            clock.tick(1);
            Check.same("9 the flag", clock.side(0, 8), 1);
            Check.same("11 it fell", clock.flagIn(0), 0);
            clock.move();
            Check.same("11 it fell already", clock.flagIn(0), 0);
            Check.same("11 the other side", clock.flagIn(1), due[i]);
        }
        GameClock clock = Check.begun("period moves 0 time 5 delay 3;extra 1 time 2;");
        clock.setPeriod(0, 3, 999);
        Check.same("11 with the delay as it is now", clock.flagIn(0), 1006);
        clock.give(0, 9999);
        Check.same("11 with what was given", clock.flagIn(0), 11005);
        clock.pause();
        Check.same("11 paused", clock.flagIn(0), 11005);
    }

    // how many ticks of the delay are left to it in this move (by its think)
    private static void delayThatIsLeft() {
        GameClock clock = Check.begun("period moves 0 time 5 delay 3;claims;");
        int[] due = {3, 2, 1, 0, 0, 0};
        for (int ticks = 0; ticks < due.length; ticks++) {
            Check.same("12 behind " + ticks, clock.delayLeft(0), due[ticks]);
            Check.same("12 the other side", clock.delayLeft(1), 3);
            clock.tick(1);
        }
        clock.tick(50);
        Check.same("12 behind the fall", clock.delayLeft(0), 0);
        clock.move();
        Check.same("12 in the next move", clock.delayLeft(0), 3);
        Check.same("12 without a delay", new GameClock().delayLeft(1), 0);
        Check.same("12 at the most", Check.loaded("period moves 0 time 5 delay 999;").delayLeft(0), 999);
    }

    // 10000 * hours + 100 * minutes + seconds of what it has left, ten ticks being a second, rounded up (13, 53)
    private static void shownAndWrittenRoundedUp() {
        int[] ticks = {1, 9, 10, 11, 20, 21, 589, 590, 591, 599, 600, 601, 610, 611, 35989, 35990, 35991, 36000, 36001,
            71990, 71991, 99990, 99991, 99999};
        int[] due = {1, 1, 1, 2, 2, 3, 59, 59, 100, 100, 100, 101, 101, 102, 5959, 5959, 10000, 10000, 10001, 15959,
            20000, 24639, 24640, 24640};
        String[] written = {"0:00:01", "0:00:01", "0:00:01", "0:00:02", "0:00:02", "0:00:03", "0:00:59", "0:00:59",
            "0:01:00", "0:01:00", "0:01:00", "0:01:01", "0:01:01", "0:01:02", "0:59:59", "0:59:59", "1:00:00",
            "1:00:00", "1:00:01", "1:59:59", "2:00:00", "2:46:39", "2:46:40", "2:46:40"};
        for (int i = 0; i < ticks.length; i++) {
            GameClock clock = Check.loaded("period moves 0 time " + ticks[i] + ";");
            Check.same("13 white's " + ticks[i], clock.shown(0), due[i]);
            Check.same("13 black's " + ticks[i], clock.shown(1), due[i]);
            Check.same("53 " + ticks[i], Check.output(clock, clock.writeClock()), written[i] + "* " + written[i]);
        }
        GameClock clock = Check.begun(FIVE + "claims;");
        clock.tick(5);
        Check.same("13 of 0", clock.shown(0), 0);
        Check.same("53 of 0", Check.output(clock, clock.writeClock()), "0:00:00!* 0:00:01");
        clock = new GameClock();
        for (int i = 0; i < 40; i++) {
            clock.give(0, 9999);
        }
        // 402960 ticks
        Check.same("13 more than ten hours", clock.shown(0), 111136);
        Check.same("53 more than ten hours", Check.output(clock, clock.writeClock()), "11:11:36* 0:05:00");
    }

    // what white has left less what black has
    private static void aheadOrBehind() {
        Check.same("16 neither", new GameClock().ahead(), 0);
        Check.same("16 by one", Check.loaded(FIVE + "hand white 1;").ahead(), 1);
        Check.same("16 behind by one", Check.loaded(FIVE + "hand black 1;").ahead(), -1);
        Check.same("16 by 9999", Check.loaded(FIVE + "hand white 9999;").ahead(), 9999);
        Check.same("16 behind by 9999", Check.loaded(FIVE + "hand black 9999;").ahead(), -9999);
        GameClock clock = Check.begun(FIVE + "claims;");
        clock.tick(9);
        Check.same("16 with a fallen flag", clock.ahead(), -5);
        clock.move();
        clock.tick(9);
        Check.same("16 with two", clock.ahead(), 0);
    }

    // the greatest pace, 1 to 9999, with which the side makes all moves up to the end of its period without its flag
    // falling
    private static void paceFrom1To9999() {
        String[] texts = {"period moves 1 time 2;", "period moves 1 time 3;", "period moves 1 time 9999;",
            "period moves 1 time 10000;", "period moves 1 time 10001;", "period moves 1 time 99999;",
            "period moves 2 time 100;", "period moves 2 time 101;", "period moves 60 time 61;",
            "period moves 60 time 60;", "period moves 60 time 121;", "period moves 1 time 5 delay 999;",
            "period moves 1 time 5 bonus 999 back 999;",
            "period moves 2 time 5 bonus 999 back 999;", "period moves 1 time 9000 delay 999;",
            "period moves 1 time 9001 delay 999;", "period moves 1 time 5;period moves 0 time 9;extra 9 time 9999;"};
        int[] due = {1, 2, 9998, 9999, 9999, 9999, 49, 50, 1, -1, 2, 1003, 4, 4, 9998, 9999, 4};
        for (int i = 0; i < texts.length; i++) {
            Check.same("14 white, " + texts[i], Check.loaded(texts[i]).pace(0), due[i]);
            Check.same("14 black, " + texts[i], Check.begun(texts[i]).pace(1), due[i]);
        }
    }

    // NONE if its moves are 0, its flag fell already, or it falls even with the pace 1
    private static void paceThatIsNone() {
        Check.same("14 its moves are 0", new GameClock().pace(0), -1);
        Check.same("14 its moves are 0", Check.begun("period moves 0 time 5 delay 999;").pace(1), -1);
        Check.same("14 it falls with 1", Check.loaded("period moves 1 time 1;").pace(0), -1);
        Check.same("14 not with a delay of 1", Check.loaded("period moves 1 time 1 delay 1;").pace(0), 1);
        Check.same("14 in the second move with 1", Check.loaded("period moves 2 time 2;").pace(0), -1);
        Check.same("14 not with a bonus of 1", Check.loaded("period moves 2 time 2 bonus 1;").pace(0), 1);
        Check.same("14 not with a back of 1", Check.loaded("period moves 2 time 2 back 1;").pace(0), 1);
        GameClock clock = Check.begun("period moves 3 time 5 delay 999;claims;");
        clock.tick(1003);
        Check.same("14 one tick ahead of the fall", clock.pace(0), 999);
        clock.tick(1);
        Check.same("14 its flag fell", clock.pace(0), -1);
        Check.same("14 the other side", clock.pace(1), 1000);
        clock.move();
        Check.same("14 its flag fell already", clock.pace(0), -1);
    }

    // if each of these moves, also the present one, takes so many ticks, with its think and what was lost in it 0 anew
    private static void paceAnew() {
        GameClock clock = Check.begun("period moves 2 time 20 delay 4 back 3;");
        // 4 free, 3 come back: 20 - 10 + 3 = 13, then 12 at the most are lost
        Check.same("14 at first", clock.pace(0), 15);
        clock.tick(9);
        // 15 left: 15 - 8 + 3 = 10 > 8, 15 - 9 + 3 = 9
        Check.same("14 by what is left", clock.pace(0), 12);
        Check.same("15 by what is left", clock.lasts(0, 12) >= 2, true);
        Check.same("15 by what is left", clock.lasts(0, 13), 1);
        Check.same("32 by what is left", clock.paceFor(0, 2), 12);
        Check.same("33 by what is left", clock.needs(0, 2, 13), 1);
        clock.move();
        Check.same("14 behind the move", clock.side(0, 0), 18);
        Check.same("14 one move", clock.pace(0), 21);
    }

    // how many moves it makes at this pace (as for pace()), until its flag falls; 200 if it has not fallen then
    private static void lastsUpTo200() {
        GameClock clock = Check.loaded("period moves 0 time 200;");
        Check.same("15 199 moves", clock.lasts(0, 1), 199);
        clock.give(0, 1);
        Check.same("15 200 moves", clock.lasts(0, 1), 200);
        clock.give(0, 1);
        Check.same("15 not 201", clock.lasts(0, 1), 200);
        Check.same("15 one tick short of one", clock.lasts(0, 202), 0);
        Check.same("15 just one", clock.lasts(0, 201), 1);
        Check.same("15 just two", clock.lasts(0, 100), 2);
        Check.same("15 just one", clock.lasts(0, 101), 1);
        clock = Check.loaded("period moves 1 time 9999;period moves 1 time 9999;");
        Check.same("15 none at 9999", clock.lasts(0, 9999), 0);
        clock.give(0, 1);
        Check.same("15 for ever at 9999", clock.lasts(0, 9999), 200);
        clock = Check.loaded("period moves 1 time 4;period moves 0 time 3;extra 2 time 5;");
        // 4 - 3 + 3 = 4, 4 - 3 = 1, then 2 into the first extra: 5 again
        Check.same("15 into the extra periods", clock.lasts(0, 3), 200);
        Check.same("15 an extra each", clock.lasts(0, 5), 0);
        clock.give(0, 2);
        // 6 - 5 + 3 = 4, 4 - 5 into the first: 5, 5 - 5 into the second: 5, then it falls
        Check.same("15 an extra each", clock.lasts(0, 5), 3);
    }

    // 0 if it fell already
    private static void lastsOfAFallenFlag() {
        GameClock clock = Check.begun("period moves 0 time 5 delay 99;claims;");
        clock.tick(103);
        Check.same("15 one tick ahead of the fall", clock.lasts(0, 99), 200);
        clock.tick(1);
        Check.same("15 it fell", clock.lasts(0, 1), 0);
        Check.same("15 the other side", clock.lasts(1, 99), 200);
        Check.same("32 it fell", clock.paceFor(0, 1), -1);
        Check.same("33 it fell", clock.needs(0, 1, 1), -1);
        clock.move();
        Check.same("15 it fell already", clock.lasts(0, 1), 0);
    }

    // the mean of the thinks of its moves in the log, as doubles
    private static void meanAsDoubles() {
        int[][] thinks = {{1}, {1, 2}, {1, 1, 2}, {0, 0, 1}, {9999, 9999, 9998}, {7, 0, 0, 0, 0, 0, 0}};
        double[] due = {1.0, 1.5, 4.0 / 3.0, 1.0 / 3.0, 29996.0 / 3.0, 1.0};
        for (int i = 0; i < thinks.length; i++) {
            GameClock clock = Check.begun("period moves 0 time 99999;");
            for (int think : thinks[i]) {
                Check.moveAfter(clock, think);
                clock.move();
            }
            Check.same("18 white's " + i, clock.meanThink(0), due[i]);
            Check.same("18 black's " + i, clock.meanThink(1), 0.0);
        }
    }

    // all ticks that its clock ran as a float divided by the time as a float; 0.0f at the time 0
    private static void shareAtTheTime0() {
        GameClock clock = Check.begun("period moves 0 time 99999 delay 5;");
        for (int side = 0; side < 2; side++) {
            Check.same("19 not begun", new GameClock().share(side), 0.0f);
            Check.same("19 at the time 0", clock.share(side), 0.0f);
        }
        clock.move();
        Check.same("19 a move at the time 0", clock.share(0) + clock.share(1), 0.0f);
        clock.tick(1);
        Check.same("19 black", clock.share(1), 1.0f);
        Check.same("19 white", clock.share(0), 0.0f);
        clock.move();
        clock.tick(2);
        Check.same("19 white", clock.share(0), 2.0f / 3.0f);
        Check.same("19 black", clock.share(1), 1.0f / 3.0f);
        clock.tick(9997);
        Check.same("19 white", clock.share(0), 9999.0f / 10000.0f);
        Check.same("19 black", clock.share(1), 1.0f / 10000.0f);
        clock.pause();
        clock.swap();
        Check.same("19 behind swap", clock.share(0), 1.0f / 10000.0f);
    }

    // ticks: 0 to 9999. What the side would have left, if so many ticks passed
    private static void leftIn0And9999() {
        GameClock clock = Check.begun("period moves 0 time 10001 delay 2;");
        Check.same("20 none", clock.leftIn(0, 0), 10001);
        Check.same("20 in the delay", clock.leftIn(0, 2), 10001);
        Check.same("20 behind it", clock.leftIn(0, 3), 10000);
        Check.same("20 9999", clock.leftIn(0, 9999), 4);
        Check.same("20 the other side", clock.leftIn(1, 9999), 10001);
        clock.tick(1);
        Check.same("20 one tick later", clock.leftIn(0, 9999), 3);
        clock = Check.begun(FIVE + "extra 1 time 7;claims;");
        int[] due = {5, 4, 3, 2, 1, 7, 6, 5, 4, 3, 2, 1, 0, 0};
        for (int ticks = 0; ticks < due.length; ticks++) {
            Check.same("20 in " + ticks, clock.leftIn(0, ticks), due[ticks]);
        }
        Check.same("20 far behind the fall", clock.leftIn(0, 9999), 0);
        clock.tick(12);
        Check.same("20 fallen", clock.leftIn(0, 0) + clock.leftIn(0, 9999), 0);
    }

    private static void leftInAnotherState() {
        GameClock clock = Check.loaded(FIVE + "session 1;");
        Check.same("20 not begun", clock.leftIn(0, 9999), 5);
        clock.start();
        clock.tick(1);
        Check.same("20 running", clock.leftIn(0, 9999), 0);
        clock.pause();
        Check.same("20 paused", clock.leftIn(0, 9999), 4);
        clock.proceed();
        clock.seal();
        Check.same("20 adjourned", clock.leftIn(0, 9999), 4);
        clock.resign(0);
        Check.same("20 over", clock.leftIn(0, 9999), 4);
    }

    // NONE if it does not end so (it is over, the state is not 1, flags are claimed, or the flag of the side to move
    // fell already)
    private static void overInAndNone() {
        GameClock clock = Check.loaded("period moves 0 time 5 delay 2;extra 9 time 3;session 1;");
        Check.same("21 not begun", clock.overIn(), -1);
        clock.start();
        for (int left = 34; left > 1; left--) {
            Check.same("21 behind " + (34 - left), clock.overIn(), left);
            clock.tick(1);
        }
        Check.same("21 one tick", clock.overIn(), 1);
        clock.setClaims(true);
        Check.same("21 flags are claimed", clock.overIn(), -1);
        clock.setClaims(false);
        clock.pause();
        Check.same("21 paused", clock.overIn(), -1);
        clock.proceed();
        clock.seal();
        Check.same("21 adjourned", clock.overIn(), -1);
        clock.undo();
        clock.tick(1);
        Check.same("21 over", clock.overIn(), -1);
        clock = Check.begun(FIVE + "claims;");
        clock.tick(5);
        Check.same("21 claimed", clock.overIn(), -1);
        clock.setClaims(false);
        Check.same("21 the flag fell already", clock.overIn(), -1);
        clock.move();
        Check.same("21 that of the other side did not", clock.overIn(), 5);
    }

    // how many ticks have to pass until sealing is possible, if the state is 1 (0 if it is); NONE in another state, or
    // without a session
    private static void sealInAndNone() {
        GameClock clock = Check.loaded(FIVE + "session 3;claims;");
        Check.same("23 not begun", clock.sealIn(), -1);
        clock.start();
        int[] due = {3, 2, 1, 0, 0};
        for (int ticks = 0; ticks < due.length; ticks++) {
            Check.same("23 behind " + ticks, clock.sealIn(), due[ticks]);
            Check.same("22 behind " + ticks, clock.canSeal(), due[ticks] == 0);
            clock.tick(1);
        }
        Check.same("23 with a fallen flag", clock.sealIn(), 0);
        clock.pause();
        Check.same("23 paused", clock.sealIn(), -1);
        Check.same("22 paused", clock.canSeal(), false);
        clock.undo();
        clock.seal();
        Check.same("23 adjourned", clock.sealIn(), -1);
        Check.same("22 adjourned", clock.canSeal(), false);
        clock.undo();
        clock.resign(1);
        Check.same("23 over", clock.sealIn(), -1);
        Check.same("22 over", clock.canSeal(), false);
        clock = Check.begun(FIVE);
        Check.same("23 without a session", clock.sealIn(), -1);
        clock = Check.begun(FIVE + "session 99999;");
        Check.same("23 at the most", clock.sealIn(), 99999);
    }

    private static GameClock withLeft(int white, int black) {
        GameClock clock = Check.begun("period moves 0 time 1;");
        if (white > 1) {
            clock.give(0, white - 1);
        }
        if (black > 1) {
            clock.give(1, black - 1);
        }
        return clock;
    }

    // NONE if none falls in 400 moves (24); 400 if no flag falls (25)
    private static void endsIn400Moves() {
        // white's 200th move is the 399th of both, black's the 400th, white's 201st the 401st
        int[][] rows = {{1, 9, 0, 1}, {2, 9, 2, 1}, {9, 1, 1, 0}, {9, 2, 3, 0}, {199, 999, 396, 1}, {200, 999, 398, 1},
            {201, 999, 400, -1}, {202, 999, 400, -1}, {999, 199, 397, 0}, {999, 200, 399, 0}, {999, 201, 400, -1},
            {200, 200, 398, 1}, {201, 200, 399, 0}, {201, 201, 400, -1}};
        for (int[] row : rows) {
            GameClock clock = withLeft(row[0], row[1]);
            Check.same("25 with " + row[0] + " and " + row[1], clock.endsAfter(1, 1), row[2]);
            Check.same("24 with " + row[0] + " and " + row[1], clock.ends(1, 1), row[3]);
        }
        GameClock clock = withLeft(9999, 9999);
        Check.same("25 at 9999", clock.endsAfter(9999, 9999), 0);
        Check.same("24 at 9999", clock.ends(9999, 1), 1);
        clock.give(0, 1);
        Check.same("25 white goes on", clock.endsAfter(9999, 9999), 1);
        Check.same("24 black falls", clock.ends(9999, 9999), 0);
        clock.give(1, 1);
        Check.same("25 white's second", clock.endsAfter(9999, 9999), 2);
        clock = Check.begun("period moves 1 time 99999;");
        Check.same("25 400 moves at 9999", clock.endsAfter(9999, 9999), 400);
        Check.same("24 400 moves at 9999", clock.ends(9999, 9999), -1);
        Check.same("34 399 moves at 9999", clock.aheadAfter(9999, 9999, 399), 90000);
        Check.same("34 400 moves at 9999", clock.aheadAfter(9999, 9999, 400), 0);
    }

    // (counted from the think as it is; at once, if that is not less)
    private static void endsAtOnceOrByTheThink() {
        GameClock clock = Check.begun("period moves 0 time 10;");
        clock.tick(6);
        // white has 4 left, black 10; at the pace 6 or less white moves at once
        Check.same("25 at the pace 9", clock.endsAfter(9, 1), 2);
        Check.same("25 at the pace 10", clock.endsAfter(10, 1), 0);
        Check.same("24 at the pace 10", clock.ends(10, 1), 1);
        Check.same("25 at the pace 7", clock.endsAfter(7, 10), 1);
        Check.same("25 at once", clock.endsAfter(6, 10), 1);
        Check.same("25 at once", clock.endsAfter(1, 10), 1);
        Check.same("34 at once", clock.aheadAfter(6, 1, 1), 4 - 10);
        Check.same("34 at once", clock.aheadAfter(5, 1, 1), 4 - 10);
        Check.same("34 one tick more", clock.aheadAfter(7, 1, 1), 3 - 10);
        Check.same("26 at once", clock.movesIn(6, 5, 4), 1);
        Check.same("26 at once", clock.movesIn(6, 5, 5), 2);
        Check.same("26 one tick more", clock.movesIn(7, 5, 5), 1);
        Check.same("26 one tick more", clock.movesIn(7, 5, 6), 2);
        // the next move of white is counted from 0
        Check.same("25 3 of 4 in the second", clock.endsAfter(3, 1), 4);
    }

    // until a flag falls that has not fallen by now
    private static void endsByAFlagThatHasNotFallen() {
        GameClock clock = Check.begun(FIVE + "claims;");
        clock.tick(5);
        Check.same("24 black's", clock.ends(9999, 1), 0);
        Check.same("25 black's fifth move", clock.endsAfter(9999, 1), 9);
        Check.same("24 black's", clock.ends(1, 5), 0);
        Check.same("25 black's first move", clock.endsAfter(1, 5), 1);
        clock.move();
        Check.same("25 black's first move", clock.endsAfter(1, 5), 0);
        clock.tick(5);
        Check.same("24 none is left", clock.ends(9999, 9999), -1);
        Check.same("25 none is left", clock.endsAfter(9999, 9999), 400);
        Check.same("34 none is left", clock.aheadAfter(9999, 9999, 400), 0);
        Check.same("26 at once, and no more", clock.movesIn(9999, 5, 9998), 1);
        Check.same("26 one more", clock.movesIn(9999, 5, 9999), 2);
    }

    // as if flags were not claimed (a draw, if the other side is bare)
    private static void endsAsIfFlagsWereNotClaimed() {
        for (String text : new String[] {FIVE, FIVE + "claims;"}) {
            for (int bare = 0; bare < 4; bare++) {
                GameClock clock = Check.begun(text);
                clock.setBare(0, (bare & 1) == 1);
                clock.setBare(1, (bare & 2) == 2);
                Check.same("24 white falls, " + bare, clock.ends(5, 1), (bare & 2) == 2 ? 2 : 1);
                Check.same("24 black falls, " + bare, clock.ends(1, 5), (bare & 1) == 1 ? 2 : 0);
                Check.same("25 white falls", clock.endsAfter(5, 1), 0);
                Check.same("25 black falls", clock.endsAfter(1, 5), 1);
                Check.same("7 the claims stay", clock.property(10), text.equals(FIVE) ? 0 : 1);
            }
        }
    }

    // how many moves would be made in so many ticks likewise
    private static void movesInTicks() {
        GameClock clock = Check.begun("period moves 0 time 99999;");
        Check.same("26 one in one", clock.movesIn(1, 1, 1), 1);
        Check.same("26 none in one", clock.movesIn(2, 1, 1), 0);
        Check.same("26 one in two", clock.movesIn(2, 1, 2), 1);
        Check.same("26 two in three", clock.movesIn(2, 1, 3), 2);
        Check.same("26 399", clock.movesIn(1, 1, 399), 399);
        Check.same("26 400", clock.movesIn(1, 1, 400), 400);
        Check.same("26 401", clock.movesIn(1, 1, 401), 401);
        Check.same("26 9999", clock.movesIn(1, 1, 9999), 9999);
        Check.same("26 one of 9999", clock.movesIn(9999, 1, 9999), 1);
        Check.same("26 none of 9999", clock.movesIn(9999, 1, 9998), 0);
        Check.same("26 two, one of 9998", clock.movesIn(1, 9998, 9999), 2);
        Check.same("26 one, none of 9999", clock.movesIn(1, 9999, 9999), 1);
        clock.tick(1);
        Check.same("26 one at once", clock.movesIn(1, 1, 9999), 10000);
        clock.pause();
        clock.swap();
        clock.proceed();
        Check.same("26 black's think alone", clock.movesIn(1, 1, 9999), 10000);
        clock.tick(1);
        Check.same("26 two at once", clock.movesIn(1, 1, 9999), 10001);
        Check.same("26 two at once", clock.movesIn(1, 1, 1), 3);
        Check.same("26 one at once", clock.movesIn(1, 2, 1), 2);
        Check.same("26 one at once behind a tick", clock.movesIn(2, 1, 1), 2);
        Check.same("26 none at once", clock.movesIn(2, 2, 1), 1);
    }

    // (less, if a flag falls)
    private static void movesInLessIfAFlagFalls() {
        GameClock clock = Check.begun(FIVE);
        Check.same("26 four and four", clock.movesIn(1, 1, 9999), 8);
        Check.same("26 up to the fall", clock.movesIn(1, 1, 9), 8);
        Check.same("26 ahead of it", clock.movesIn(1, 1, 8), 8);
        Check.same("26 ahead of it", clock.movesIn(1, 1, 7), 7);
        Check.same("26 in the first", clock.movesIn(5, 1, 5), 0);
        Check.same("26 in the second", clock.movesIn(1, 5, 6), 1);
        clock = Check.begun("period moves 1 time 5;period moves 0 time 5;extra 1 time 2;");
        // white: 1, 6, 2, then 4 of 2 and 2: falls; black: 4, 9 .. at 1
        Check.same("26 with extra periods", clock.movesIn(4, 1, 9999), 4);
    }

    // ticks: 0 to 9999. How many of its moves in the log have a think of at most so many ticks
    private static void withinTicks() {
        GameClock clock = Check.begun("period moves 0 time 99999;");
        int[] thinks = {0, 1, 2, 9998, 9999};
        for (int think : thinks) {
            Check.moveAfter(clock, think);
            clock.move();
        }
        clock.tick(9999);
        clock.tick(1);
        Check.moveAfter(clock, 0);
        int[] ticks = {0, 1, 2, 3, 9997, 9998, 9999};
        int[] due = {1, 2, 3, 3, 3, 4, 5};
        for (int i = 0; i < ticks.length; i++) {
            Check.same("31 white within " + ticks[i], clock.within(0, ticks[i]), due[i]);
            Check.same("31 black within " + ticks[i], clock.within(1, ticks[i]), 5);
        }
    }

    // moves: 1 to 200. The greatest pace, 1 to 9999, with which it makes so many moves .. NONE if there is none
    private static void paceForMoves() {
        GameClock clock = Check.loaded("period moves 0 time 200;");
        Check.same("32 one move", clock.paceFor(0, 1), 199);
        Check.same("32 two moves", clock.paceFor(0, 2), 99);
        Check.same("32 199 moves", clock.paceFor(0, 199), 1);
        Check.same("32 200 moves", clock.paceFor(0, 200), -1);
        clock.give(0, 1);
        Check.same("32 200 moves", clock.paceFor(0, 200), 1);
        Check.same("32 the other side", clock.paceFor(1, 200), -1);
        clock = Check.loaded("period moves 0 time 1;");
        Check.same("32 none", clock.paceFor(0, 1), -1);
        clock = Check.loaded("period moves 0 time 10000;");
        Check.same("32 9999", clock.paceFor(0, 1), 9999);
        clock.give(0, -1);
        Check.same("32 9998", clock.paceFor(0, 1), 9998);
        clock.give(0, 9999);
        Check.same("32 not 10000", clock.paceFor(0, 1), 9999);
        clock = Check.loaded("period moves 1 time 99999;");
        Check.same("32 in all rounds", clock.paceFor(0, 200), 9999);
        clock = Check.loaded("period moves 1 time 10;period moves 1 time 5;");
        // 199 times 5 more: 10 + 199 * 5 = 1005 for 200 moves
        Check.same("32 up to the last round", clock.paceFor(0, 200), 5);
        clock = Check.loaded(FIVE + "extra 9 time 9999;");
        Check.same("32 in the extra periods", clock.paceFor(0, 200), 9998);
        Check.same("32 an extra each", clock.paceFor(0, 9), 9999);
        Check.same("32 an extra each and one more", clock.paceFor(0, 10), 9998);
    }

    // the least number of ticks, 0 to 99999, that it must have left more .. NONE if there is none
    private static void needsFrom0To99999() {
        GameClock clock = Check.loaded("period moves 0 time 10;");
        Check.same("33 none", clock.needs(0, 1, 9), 0);
        Check.same("33 one", clock.needs(0, 1, 10), 1);
        Check.same("33 two", clock.needs(0, 1, 11), 2);
        Check.same("33 at 9999", clock.needs(0, 1, 9999), 9990);
        Check.same("33 200 moves", clock.needs(0, 200, 1), 191);
        Check.same("33 at the most", clock.needs(0, 10, 9999), 99981);
        Check.same("33 too many", clock.needs(0, 11, 9999), -1);
        Check.same("33 too many", clock.needs(0, 200, 9999), -1);
        // 125 moves of 800 ticks: 100001 are needed
        Check.same("33 99991", clock.needs(0, 125, 800), 99991);
        clock.give(0, -8);
        Check.same("33 99999", clock.needs(0, 125, 800), 99999);
        clock.give(0, -1);
        Check.same("33 not 100000", clock.needs(0, 125, 800), -1);
        clock = Check.loaded(FIVE + "extra 1 time 8;");
        // with 4 more 9 - 8 = 1 is left, and the second move goes 7 into the extra period, behind that 8 fall
        Check.same("33 in an extra period", clock.needs(0, 1, 8), 0);
        Check.same("33 one more", clock.needs(0, 2, 8), 4);
        Check.same("33 and one more", clock.needs(0, 3, 8), 12);
        clock = Check.begun(FIVE + "claims;");
        clock.tick(5);
        Check.same("33 its flag fell", clock.needs(0, 1, 1), -1);
    }

    // moves: 0 to 400. What white has left less what black has, behind so many moves (less, if a flag falls)
    private static void aheadAfterMoves() {
        GameClock clock = Check.begun("period moves 0 time 900;hand black 100;");
        Check.same("34 now", clock.aheadAfter(2, 1, 0), -100);
        Check.same("34 one move", clock.aheadAfter(2, 1, 1), -102);
        Check.same("34 two moves", clock.aheadAfter(2, 1, 2), -101);
        Check.same("34 399 moves", clock.aheadAfter(2, 1, 399), 900 - 400 - 1000 + 199);
        Check.same("34 400 moves", clock.aheadAfter(2, 1, 400), 900 - 400 - 1000 + 200);
        clock.tick(1);
        Check.same("34 now", clock.aheadAfter(2, 1, 0), -101);
        clock = Check.begun(FIVE);
        Check.same("34 ahead of the fall", clock.aheadAfter(2, 1, 4), 1 - 3);
        Check.same("34 white's flag falls in the 5th", clock.aheadAfter(2, 1, 5), 0 - 3);
        Check.same("34 no moves behind it", clock.aheadAfter(2, 1, 400), 0 - 3);
        Check.same("34 black's flag falls in the 2nd", clock.aheadAfter(1, 9999, 400), 4 - 0);
        clock = Check.begun("period moves 1 time 99999 bonus 999;");
        Check.same("34 with all that is gained", clock.aheadAfter(1, 1, 399), 100997);
        Check.same("34 with all that is gained", clock.aheadAfter(1, 1, 400), 0);
    }

    // NONE if the state is not 1 (24, 25, 26, 34)
    private static void whatWouldBeInAnotherState() {
        GameClock clock = Check.loaded(FIVE + "session 1;");
        none("not begun", clock);
        clock.start();
        Check.same("24 running", clock.ends(5, 5), 1);
        clock.tick(1);
        clock.pause();
        none("paused", clock);
        clock.proceed();
        clock.seal();
        none("adjourned", clock);
        clock.resign(0);
        none("over", clock);
    }

    private static void none(String what, GameClock clock) {
        Check.same("24 " + what, clock.ends(5, 5), -1);
        Check.same("25 " + what, clock.endsAfter(5, 5), -1);
        Check.same("26 " + what, clock.movesIn(5, 5, 5), -1);
        Check.same("34 " + what, clock.aheadAfter(5, 5, 0), -1);
        Check.same("34 " + what, clock.aheadAfter(5, 5, 400), -1);
    }

    private static GameClock thinking() {
        GameClock clock = Check.begun("period moves 2 time 50 bonus 2 delay 1 back 1;period moves 0 time 30;"
                + "extra 2 time 5;session 5;");
        Check.moveAfter(clock, 9);
        clock.keep(0);
        Check.moveAfter(clock, 4);
        clock.tick(6);
        clock.writeLog();
        return clock;
    }

    // Methods that ask what would be do not change anything.
    private static void noneChangesAnything() {
        Supplier<GameClock> maker = AskEdgeTest::thinking;
        Check.leavesAlone("14", maker, c -> c.pace(0));
        Check.leavesAlone("14", maker, c -> c.pace(1));
        Check.leavesAlone("15", maker, c -> c.lasts(0, 9999));
        Check.leavesAlone("15", maker, c -> c.lasts(1, 1));
        Check.leavesAlone("20", maker, c -> c.leftIn(0, 9999));
        Check.leavesAlone("21", maker, c -> c.overIn());
        Check.leavesAlone("22", maker, c -> c.canSeal());
        Check.leavesAlone("23", maker, c -> c.sealIn());
        Check.leavesAlone("24", maker, c -> c.ends(9999, 9999));
        Check.leavesAlone("24", maker, c -> c.ends(1, 1));
        Check.leavesAlone("25", maker, c -> c.endsAfter(1, 9999));
        Check.leavesAlone("26", maker, c -> c.movesIn(1, 1, 9999));
        Check.leavesAlone("32", maker, c -> c.paceFor(1, 200));
        Check.leavesAlone("33", maker, c -> c.needs(0, 200, 9999));
        Check.leavesAlone("34", maker, c -> c.aheadAfter(9999, 1, 400));
        Check.leavesAlone("34", maker, c -> c.aheadAfter(1, 1, 400));
    }
}
