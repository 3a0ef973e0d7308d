import java.util.function.Supplier;

/** Promises 14, 15, 20 to 26 and 32 to 34: what would be. */
public final class WouldBeTest {
    private static final Class<?> IAE = IllegalArgumentException.class;
    private static final Class<?> IOOBE = IndexOutOfBoundsException.class;
    private static final String TEXT = "period moves 2 time 100 bonus 5 delay 3 back 4; period moves 0 time 40;"
            + " extra 1 time 20; hand black 10;";
    private static final String FIVE = "period moves 0 time 5;";

    private WouldBeTest() {
    }

    public static void main(String[] args) {
        promise14Pace();
        promise14PaceAnew();
        promise15Lasts();
        promise15Extra();
        promise20LeftIn();
        promise21OverIn();
        promise22And23Seal();
        promise24Ends();
        promise24EndsFallen();
        promise25EndsAfter();
        promise26MovesIn();
        promise32PaceFor();
        promise33Needs();
        promise34AheadAfter();
        bothThinkAndMoveAtOnce();
        bothThinkUpToTheLimits();
        paces();
        asksLeaveTheClockAlone();
        Check.end("WouldBeTest");
    }

    private static GameClock game() {
        GameClock clock = Check.begun(TEXT);
        clock.tick(10);
        return clock;
    }

    private static void promise14Pace() {
        GameClock clock = Check.loaded(TEXT);
        // 57: 54 lost, 9 gained, 55 left, 54 lost; 58: 55 lost, 54 left, 55 lost
        Check.same("14 white", clock.pace(0), 57);
        // 110 - 59 + 9 = 60, 59 lost
        Check.same("14 black", clock.pace(1), 62);
        Check.same("14 moves are 0", new GameClock().pace(0), -1);
        clock = Check.loaded("period moves 1 time 100; extra 5 time 50;");
        Check.same("14 the last tick makes the flag fall", clock.pace(0), 99);
        clock = Check.loaded("period moves 1 time 1;");
        Check.same("14 it falls even with 1", clock.pace(0), -1);
        clock = Check.loaded("period moves 1 time 2;");
        Check.same("14 the least pace", clock.pace(0), 1);
        clock = Check.loaded("period moves 60 time 99999;");
        Check.same("14 60 moves", clock.pace(0), 1666);
        clock = Check.loaded("period moves 1 time 99999;");
        Check.same("14 at most 9999", clock.pace(0), 9999);
        clock = Check.loaded("period moves 1 time 9999;");
        Check.same("14 below 9999", clock.pace(0), 9998);
        clock = Check.loaded("period moves 5 time 10 delay 7 back 999;");
        Check.same("14 all comes back", clock.pace(0), 16);
        clock = Check.loaded("period moves 5 time 10 bonus 7;");
        Check.same("14 with a bonus", clock.pace(0), 7);
        clock = Check.begun("period moves 1 time 5; claims;");
        clock.tick(5);
        Check.same("14 fell already", clock.pace(0), -1);
        clock.move();
        clock.give(1, 30);
        Check.same("14 fell already, a move later", clock.pace(0), -1);
        Check.same("14 the other side", clock.pace(1), 34);
        Check.refuses("14 side -1", IOOBE, WouldBeTest::game, c -> c.pace(-1));
        Check.refuses("14 side 2", IOOBE, WouldBeTest::game, c -> c.pace(2));
    }

    private static void promise14PaceAnew() {
        GameClock clock = game();
        // 93 left, the think of 10 and what was lost in it count for nothing
        // 93 - 50 + 9 = 52, 50 lost (53); 93 - 51 + 9 = 51, 51 lost falls
        Check.same("14 think anew", clock.pace(0), 53);
        clock.move();
        clock.move();
        // 102 left, one move up to the end of the period
        Check.same("14 one move", clock.pace(0), 104);
        clock.move();
        Check.same("14 moves are 0 now", clock.pace(0), -1);
    }

    private static void promise15Lasts() {
        GameClock clock = Check.loaded(TEXT);
        // 100 - 54 + 9 = 55, 1 + 9 + 40 = 50, 57 lost with an extra period: 13, then 20 left again
        Check.same("15 white", clock.lasts(0, 57), 3);
        Check.same("15 one more", clock.lasts(0, 58), 1);
        Check.same("15 for ever", clock.lasts(0, 3), 200);
        Check.same("15 for ever in an extra period", clock.lasts(0, 19), 200);
        Check.same("15 falls in the first", clock.lasts(0, 103), 0);
        Check.same("15 does not fall in the first", clock.lasts(0, 102), 1);
        clock = new GameClock();
        Check.same("15 of 3000", clock.lasts(0, 100), 29);
        Check.same("15 all but 200", clock.lasts(0, 15), 199);
        Check.same("15 just 200", clock.lasts(0, 14), 200);
        Check.same("15 the most", clock.lasts(1, 9999), 0);
        Check.same("15 the least", clock.lasts(1, 1), 200);
        // 93 - 50 + 9 = 52, 2 + 9 + 40 = 51, 53 lost with the extra period, then 20 are not enough
        Check.same("15 think anew", game().lasts(0, 53), 3);
        Check.same("15 think anew", game().lasts(0, 54), 1);
        clock = Check.begun(FIVE + "claims;");
        clock.tick(5);
        Check.same("15 fell already", clock.lasts(0, 1), 0);
        clock = Check.loaded("period moves 1 time 10; period moves 1 time 6;");
        // with 8: 10, 2 + 6; with 7: 10, 3 + 6, 2 + 6, 1 + 6
        Check.same("15 the last period anew", clock.lasts(0, 8), 1);
        Check.same("15 the last period anew", clock.lasts(0, 7), 3);
        Check.same("15 the last period anew", clock.lasts(0, 6), 200);
        Check.refuses("15 side -1", IOOBE, WouldBeTest::game, c -> c.lasts(-1, 5));
        Check.refuses("15 side 2", IOOBE, WouldBeTest::game, c -> c.lasts(2, 5));
        Check.refuses("15 both wrong", IOOBE, WouldBeTest::game, c -> c.lasts(2, 0));
        Check.refuses("15 pace 0", IAE, WouldBeTest::game, c -> c.lasts(0, 0));
        Check.refuses("15 pace 10000", IAE, WouldBeTest::game, c -> c.lasts(1, 10000));
    }

    private static void promise15Extra() {
        GameClock clock = Check.loaded("period moves 0 time 10 delay 2; extra 2 time 8;");
        // 7 lost: 3, then 3 + 8 - 7 = 4 and 8 again, for ever
        Check.same("15 less than an extra", clock.lasts(0, 9), 200);
        // 8 lost: 2, then 6 of the first extra, 8 again, then the second one has 8, then 8 lost: falls
        Check.same("15 an extra each", clock.lasts(0, 10), 3);
        // 18 lost: both extra periods are begun in the first move; 26 would let it fall
        Check.same("15 through two extras", clock.lasts(0, 27), 1);
        Check.same("15 through all", clock.lasts(0, 28), 0);
        Check.same("11 the same", clock.flagIn(0), 28);
    }

    private static void promise20LeftIn() {
        GameClock clock = game();
        Check.same("20 now", clock.leftIn(0, 0), 93);
        Check.same("20 some ticks", clock.leftIn(0, 33), 60);
        Check.same("20 up to the fall", clock.leftIn(0, 93), 0);
        Check.same("20 behind the fall", clock.leftIn(0, 9999), 0);
        Check.same("20 the other side", clock.leftIn(1, 50), 110);
        clock.move();
        Check.same("20 in the delay", clock.leftIn(1, 3), 110);
        Check.same("20 behind the delay", clock.leftIn(1, 4), 109);
        clock.pause();
        Check.same("20 paused", clock.leftIn(1, 50), 110);
        Check.same("20 not begun", Check.loaded(TEXT).leftIn(0, 50), 100);
        clock = Check.begun("period moves 0 time 5; extra 2 time 4;");
        Check.same("20 the first extra", clock.leftIn(0, 5), 4);
        Check.same("20 in it", clock.leftIn(0, 7), 2);
        Check.same("20 the second extra", clock.leftIn(0, 9), 4);
        Check.same("20 its last tick", clock.leftIn(0, 12), 1);
        Check.same("20 fallen", clock.leftIn(0, 13), 0);
        clock.tick(13);
        Check.same("20 over", clock.leftIn(1, 4), 5);
        Check.refuses("20 side -1", IOOBE, WouldBeTest::game, c -> c.leftIn(-1, 5));
        Check.refuses("20 side 2", IOOBE, WouldBeTest::game, c -> c.leftIn(2, 5));
        Check.refuses("20 both wrong", IOOBE, WouldBeTest::game, c -> c.leftIn(2, -1));
        Check.refuses("20 ticks -1", IAE, WouldBeTest::game, c -> c.leftIn(0, -1));
        Check.refuses("20 ticks 10000", IAE, WouldBeTest::game, c -> c.leftIn(1, 10000));
    }

    private static void promise21OverIn() {
        GameClock clock = Check.loaded(TEXT);
        Check.same("21 not begun", clock.overIn(), -1);
        clock.start();
        Check.same("21 with the delay", clock.overIn(), 103);
        clock.tick(10);
        Check.same("21 behind it", clock.overIn(), 93);
        clock.setClaims(true);
        Check.same("21 claimed", clock.overIn(), -1);
        clock.setClaims(false);
        clock.pause();
        Check.same("21 paused", clock.overIn(), -1);
        clock.proceed();
        clock.tick(92);
        Check.same("21 one tick", clock.overIn(), 1);
        clock.tick(1);
        Check.same("21 over", clock.overIn(), -1);
        Check.same("21 it is", clock.property(0), 4);
        clock = Check.begun("period moves 0 time 5 delay 2; extra 2 time 4;");
        Check.same("21 with extra periods", clock.overIn(), 15);
        clock = Check.begun(FIVE + "claims;");
        clock.tick(5);
        clock.setClaims(false);
        Check.same("21 the flag fell already", clock.overIn(), -1);
        clock.move();
        Check.same("21 the flag of the side to move alone", clock.overIn(), 5);
    }

    private static void promise22And23Seal() {
        GameClock clock = Check.loaded("period moves 0 time 50; session 20;");
        Check.same("22 not begun", clock.canSeal(), false);
        Check.same("23 not begun", clock.sealIn(), -1);
        clock.start();
        Check.same("22 at first", clock.canSeal(), false);
        Check.same("23 at first", clock.sealIn(), 20);
        clock.tick(19);
        Check.same("22 one tick ahead", clock.canSeal(), false);
        Check.same("23 one tick ahead", clock.sealIn(), 1);
        clock.tick(1);
        Check.same("22 now", clock.canSeal(), true);
        Check.same("23 now", clock.sealIn(), 0);
        clock.tick(3);
        Check.same("22 later", clock.canSeal(), true);
        Check.same("23 later", clock.sealIn(), 0);
        clock.pause();
        Check.same("22 paused", clock.canSeal(), false);
        Check.same("23 paused", clock.sealIn(), -1);
        clock.proceed();
        clock.seal();
        Check.same("22 adjourned", clock.canSeal(), false);
        Check.same("23 adjourned", clock.sealIn(), -1);
        clock.open();
        Check.same("22 a new session", clock.canSeal(), false);
        Check.same("23 a new session", clock.sealIn(), 20);
        clock = Check.begun(FIVE);
        clock.tick(3);
        Check.same("22 without a session", clock.canSeal(), false);
        Check.same("23 without a session", clock.sealIn(), -1);
        clock = Check.begun("period moves 0 time 5; session 9;");
        Check.same("23 though the flag falls ahead of it", clock.sealIn(), 9);
        clock = Check.begun("period moves 0 time 5; session 5;");
        clock.tick(5);
        Check.same("22 over", clock.canSeal(), false);
        Check.same("23 over", clock.sealIn(), -1);
    }

    private static void promise24Ends() {
        GameClock clock = game();
        Check.same("24 white falls", clock.ends(1000, 1), 1);
        Check.same("24 black falls", clock.ends(1, 1000), 0);
        Check.same("24 none falls", clock.ends(5, 5), -1);
        Check.same("24 not begun", Check.loaded(TEXT).ends(1000, 1), -1);
        clock.setBare(1, true);
        Check.same("24 black cannot win", clock.ends(1000, 1), 2);
        Check.same("24 black can lose", clock.ends(1, 1000), 0);
        clock.setBare(1, false);
        clock.setBare(0, true);
        Check.same("24 white cannot win", clock.ends(1, 1000), 2);
        Check.same("24 white can lose", clock.ends(1000, 1), 1);
        clock.setClaims(true);
        Check.same("24 as if not claimed", clock.ends(1000, 1), 1);
        clock.pause();
        Check.same("24 paused", clock.ends(1000, 1), -1);
        // the think of 4 counts: with the pace 5 one tick more, with 4 or less the move is made at once
        clock = Check.begun("period moves 1 time 5; period moves 0 time 1;");
        clock.tick(4);
        Check.same("24 the think so far", clock.ends(5, 1), 1);
        Check.same("25 in this move", clock.endsAfter(5, 1), 0);
        Check.same("25 at once", clock.endsAfter(4, 9), 1);
        Check.same("24 at once", clock.ends(4, 9), 0);
        Check.same("25 at once", clock.endsAfter(2, 9), 1);
        Check.same("25 then white's flag", clock.endsAfter(4, 4), 2);
        Check.same("24 then white's flag", clock.ends(4, 4), 1);
        Check.same("24 then black's flag", clock.ends(1, 4), 0);
        Check.same("25 then black's flag", clock.endsAfter(1, 4), 3);
    }

    private static void promise24EndsFallen() {
        GameClock clock = Check.begun(FIVE + "claims;");
        clock.tick(7);
        Check.same("24 only the other flag counts", clock.ends(3, 3), 0);
        Check.same("25 black's second move", clock.endsAfter(3, 3), 3);
        clock.setBare(0, true);
        Check.same("24 white is bare", clock.ends(3, 3), 2);
        clock.move();
        clock.tick(5);
        Check.same("24 no flag is left", clock.ends(9, 9), -1);
        Check.same("25 no flag is left", clock.endsAfter(9, 9), 400);
        Check.same("34 no flag is left", clock.aheadAfter(9, 9, 400), 0);
    }

    private static void promise25EndsAfter() {
        GameClock clock = new GameClock();
        Check.same("25 not begun", clock.endsAfter(10, 10), -1);
        clock.start();
        Check.same("25 in the first", clock.endsAfter(3000, 1), 0);
        Check.same("25 one tick less", clock.endsAfter(2999, 1), 2);
        Check.same("25 black's first", clock.endsAfter(1, 3000), 1);
        Check.same("25 white's 200th move", clock.endsAfter(15, 1), 398);
        Check.same("25 black's 200th move", clock.endsAfter(1, 15), 399);
        Check.same("24 black's 200th move", clock.ends(1, 15), 0);
        Check.same("25 white's 201st would be", clock.endsAfter(14, 14), 400);
        clock.give(0, -200);
        // 2800 left: 200 moves of 14 ticks use it up in the 200th, the 399th of both
        Check.same("25 the 399th", clock.endsAfter(14, 1), 398);
        clock.give(0, 1);
        Check.same("25 the 401st is too late", clock.endsAfter(14, 1), 400);
        Check.same("24 the 401st is too late", clock.ends(14, 1), -1);
        clock.setClaims(true);
        Check.same("25 as if not claimed", clock.endsAfter(9999, 1), 0);
        clock.pause();
        Check.same("25 paused", clock.endsAfter(10, 10), -1);
    }

    private static void promise26MovesIn() {
        GameClock clock = new GameClock();
        Check.same("26 not begun", clock.movesIn(1, 1, 5), -1);
        clock.start();
        Check.same("26 just ahead of a move", clock.movesIn(10, 20, 9), 0);
        Check.same("26 one", clock.movesIn(10, 20, 10), 1);
        Check.same("26 still one", clock.movesIn(10, 20, 29), 1);
        Check.same("26 two", clock.movesIn(10, 20, 30), 2);
        Check.same("26 more", clock.movesIn(10, 20, 305), 20);
        Check.same("26 more than 400", clock.movesIn(1, 1, 2000), 2000);
        clock.tick(7);
        Check.same("26 the think so far", clock.movesIn(10, 20, 3), 1);
        Check.same("26 the think so far", clock.movesIn(10, 20, 2), 0);
        Check.same("26 at once, and no more", clock.movesIn(7, 20, 1), 1);
        Check.same("26 at once", clock.movesIn(3, 20, 20), 2);
        Check.same("26 at once, one tick too few for the next", clock.movesIn(3, 20, 19), 1);
        Check.same("26 at once, and one for each tick", clock.movesIn(1, 1, 30), 31);
        clock = Check.begun("period moves 0 time 10 delay 1;");
        // each move of 3 ticks costs 2; white's fifth move falls at its last tick
        Check.same("26 until the flag falls", clock.movesIn(3, 1, 9999), 8);
        Check.same("26 no flag falls", clock.movesIn(1, 1, 9999), 9999);
        clock.tick(1);
        Check.same("26 no flag falls, one at once", clock.movesIn(1, 1, 9999), 10000);
        clock.pause();
        Check.same("26 paused", clock.movesIn(1, 1, 5), -1);
        Check.refuses("26 ticks 0", IAE, WouldBeTest::game, c -> c.movesIn(1, 1, 0));
        Check.refuses("26 ticks 10000", IAE, WouldBeTest::game, c -> c.movesIn(1, 1, 10000));
        Check.refuses("26 ticks 0, not begun", IAE, GameClock::new, c -> c.movesIn(1, 1, 0));
    }

    private static void promise32PaceFor() {
        GameClock clock = Check.loaded(TEXT);
        Check.same("32 one move", clock.paceFor(0, 1), 102);
        Check.same("32 two moves", clock.paceFor(0, 2), 57);
        Check.same("32 three moves", clock.paceFor(0, 3), 57);
        Check.same("32 in the extra period", clock.paceFor(0, 200), 19);
        Check.same("32 black", clock.paceFor(1, 1), 112);
        clock = new GameClock();
        Check.same("32 200 moves", clock.paceFor(0, 200), 14);
        Check.same("32 199 moves", clock.paceFor(0, 199), 15);
        Check.same("32 one of 3000", clock.paceFor(0, 1), 2999);
        clock = Check.loaded("period moves 0 time 50;");
        Check.same("32 none", clock.paceFor(0, 50), -1);
        Check.same("32 the least", clock.paceFor(0, 49), 1);
        Check.same("32 the most", Check.loaded("period moves 1 time 99999;").paceFor(0, 2), 9999);
        Check.same("32 think anew", game().paceFor(0, 2), 53);
        clock = Check.begun(FIVE + "claims;");
        clock.tick(5);
        Check.same("32 fell already", clock.paceFor(0, 1), -1);
        Check.same("32 the other side", clock.paceFor(1, 1), 4);
        Check.refuses("32 side -1", IOOBE, WouldBeTest::game, c -> c.paceFor(-1, 5));
        Check.refuses("32 side 2", IOOBE, WouldBeTest::game, c -> c.paceFor(2, 5));
        Check.refuses("32 both wrong", IOOBE, WouldBeTest::game, c -> c.paceFor(2, 0));
        Check.refuses("32 moves 0", IAE, WouldBeTest::game, c -> c.paceFor(0, 0));
        Check.refuses("32 moves 201", IAE, WouldBeTest::game, c -> c.paceFor(1, 201));
    }

    private static void promise33Needs() {
        GameClock clock = Check.loaded(TEXT);
        Check.same("33 none", clock.needs(0, 2, 57), 0);
        Check.same("33 some", clock.needs(0, 2, 58), 2);
        Check.same("33 one move", clock.needs(0, 1, 103), 1);
        Check.same("33 black", clock.needs(1, 1, 113), 1);
        clock = new GameClock();
        Check.same("33 of 3000", clock.needs(0, 10, 9999), 96991);
        Check.same("33 too many", clock.needs(0, 11, 9999), -1);
        Check.same("33 200 moves", clock.needs(0, 200, 15), 1);
        clock = Check.loaded("period moves 0 time 2;");
        Check.same("33 nearly too many", clock.needs(0, 10, 9999), 99989);
        clock = Check.loaded("period moves 0 time 1;");
        Check.same("33 16 moves", clock.needs(0, 16, 6249), 99984);
        Check.same("33 33 moves", clock.needs(0, 33, 3030), 99990);
        Check.same("33 100 moves", Check.loaded(FIVE).needs(0, 100, 1000), 99996);
        clock = Check.loaded("period moves 0 time 1; extra 1 time 8;");
        // one move of 9 is too much for 1 and 8; with 1 more it is in the extra one
        Check.same("33 with an extra period", clock.needs(0, 1, 9), 1);
        // 17 - 8 - 8 = 1, which the third move goes beyond
        Check.same("33 with an extra period", clock.needs(0, 3, 8), 16);
        // 94 - 51 + 9 = 52, 51 lost
        Check.same("33 think anew", game().needs(0, 2, 54), 1);
        clock = Check.begun(FIVE + "claims;");
        clock.tick(5);
        Check.same("33 fell already", clock.needs(0, 1, 1), -1);
        // 100 moves of 1000 ticks need 100001 ticks
        Check.same("33 the limit", Check.loaded("period moves 0 time 2;").needs(0, 100, 1000), 99999);
        Check.same("33 beyond it", Check.loaded("period moves 0 time 1;").needs(0, 100, 1000), -1);
        Check.refuses("33 side -1", IOOBE, WouldBeTest::game, c -> c.needs(-1, 5, 5));
        Check.refuses("33 side 2", IOOBE, WouldBeTest::game, c -> c.needs(2, 5, 5));
        Check.refuses("33 all wrong", IOOBE, WouldBeTest::game, c -> c.needs(2, 0, 0));
        Check.refuses("33 moves 0", IAE, WouldBeTest::game, c -> c.needs(0, 0, 5));
        Check.refuses("33 moves 201", IAE, WouldBeTest::game, c -> c.needs(0, 201, 5));
        Check.refuses("33 pace 0", IAE, WouldBeTest::game, c -> c.needs(0, 5, 0));
        Check.refuses("33 pace 10000", IAE, WouldBeTest::game, c -> c.needs(0, 5, 10000));
    }

    private static void promise34AheadAfter() {
        GameClock clock = game();
        // white 93 left and 7 lost, black 110
        Check.same("34 now", clock.aheadAfter(20, 30, 0), -17);
        // 10 more: 83, 17 lost, 9 gained
        Check.same("34 one move", clock.aheadAfter(20, 30, 1), 92 - 110);
        // black 27 lost, 9 gained
        Check.same("34 two moves", clock.aheadAfter(20, 30, 2), 92 - 92);
        // white 17 lost, 9 gained, and 40
        Check.same("34 three moves", clock.aheadAfter(20, 30, 3), 124 - 92);
        Check.same("34 at once", clock.aheadAfter(4, 30, 1), 102 - 110);
        Check.same("34 less, as white's flag falls", clock.aheadAfter(9999, 1, 5), -110);
        Check.same("34 less, as black's flag falls", clock.aheadAfter(20, 9999, 5), 92);
        // the pace 1 costs nothing in period 0, and in the extra period both have left 20 behind each move
        Check.same("34 400 moves", clock.aheadAfter(1, 1, 400), 0);
        Check.same("34 290 moves", clock.aheadAfter(1, 1, 290), 147 - 143 - (160 - 143));
        Check.same("25 both go on", clock.endsAfter(1, 1), 400);
        Check.same("34 not begun", Check.loaded(TEXT).aheadAfter(1, 1, 0), -1);
        clock.pause();
        Check.same("34 paused", clock.aheadAfter(1, 1, 0), -1);
        Check.refuses("34 moves -1", IAE, WouldBeTest::game, c -> c.aheadAfter(1, 1, -1));
        Check.refuses("34 moves 401", IAE, WouldBeTest::game, c -> c.aheadAfter(1, 1, 401));
        Check.refuses("34 moves 401, not begun", IAE, GameClock::new, c -> c.aheadAfter(1, 1, 401));
    }

    /** White ticks, the sides are swapped in a pause, and white ticks again: both have a think then. */
    private static GameClock bothThink(String text, int blackThink, int whiteThink) {
        GameClock clock = Check.begun(text);
        clock.tick(blackThink);
        clock.pause();
        clock.swap();
        clock.proceed();
        clock.tick(whiteThink);
        Check.same("48 white's think", clock.side(0, 6), whiteThink);
        Check.same("48 black's think", clock.side(1, 6), blackThink);
        return clock;
    }

    private static void bothThinkAndMoveAtOnce() {
        GameClock clock = bothThink("period moves 0 time 100 bonus 9;", 5, 3);
        Check.same("26 two at once", clock.movesIn(3, 5, 1), 2);
        Check.same("26 two at once, one tick too few", clock.movesIn(3, 5, 2), 2);
        Check.same("26 two at once and one more", clock.movesIn(3, 5, 3), 3);
        Check.same("26 white at once", clock.movesIn(3, 6, 1), 2);
        Check.same("26 black at once", clock.movesIn(4, 5, 1), 2);
        Check.same("26 none at once", clock.movesIn(4, 6, 1), 1);
        Check.same("26 none at once", clock.movesIn(4, 6, 2), 2);
        // both have 6 left, and 7 behind the move at once
        clock = bothThink("period moves 1 time 10; period moves 0 time 1;", 4, 4);
        Check.same("24 white falls", clock.ends(4, 4), 1);
        Check.same("25 behind two at once and two more", clock.endsAfter(4, 4), 4);
        Check.same("26 until the flag falls", clock.movesIn(4, 4, 9999), 4);
        Check.same("24 black falls", clock.ends(3, 4), 0);
        Check.same("25 behind two at once and three more", clock.endsAfter(3, 4), 5);
        Check.same("24 black in its first move", clock.ends(4, 10), 0);
        Check.same("25 black in its first move", clock.endsAfter(4, 10), 1);
        Check.same("34 now", clock.aheadAfter(4, 4, 0), 0);
        Check.same("34 one at once", clock.aheadAfter(4, 4, 1), 1);
        Check.same("34 two at once", clock.aheadAfter(4, 4, 2), 0);
        Check.same("34 and one more", clock.aheadAfter(4, 4, 3), 3 - 7);
        Check.same("34 and two more", clock.aheadAfter(4, 4, 4), 0);
        Check.same("34 then white falls", clock.aheadAfter(4, 4, 5), -3);
        Check.same("34 then white falls", clock.aheadAfter(4, 4, 400), -3);
    }

    private static void bothThinkUpToTheLimits() {
        GameClock clock = bothThink("period moves 0 time 9999 bonus 9;", 1, 1);
        Check.same("26 two at once and one for each tick", clock.movesIn(1, 1, 9999), 10001);
        Check.same("26 one tick less", clock.movesIn(1, 1, 9998), 10000);
        Check.same("26 black's takes a tick", clock.movesIn(1, 2, 9999), 2 + 2 * 3332 + 1);
        Check.same("34 399 moves", clock.aheadAfter(1, 1, 399), 8);
        Check.same("34 400 moves", clock.aheadAfter(1, 1, 400), 0);
        Check.same("25 no flag falls", clock.endsAfter(1, 1), 400);
        Check.same("24 no flag falls", clock.ends(1, 1), -1);
        // the first move of each side takes no tick: 199 ticks are left, the 200th move of white uses them up
        clock = bothThink("period moves 0 time 200;", 1, 1);
        Check.same("25 the 399th", clock.endsAfter(1, 1), 398);
        Check.same("24 the 399th", clock.ends(1, 1), 1);
        clock.give(0, 1);
        Check.same("25 the 400th", clock.endsAfter(1, 1), 399);
        Check.same("24 the 400th", clock.ends(1, 1), 0);
        clock.give(1, 1);
        Check.same("25 the 401st is too late", clock.endsAfter(1, 1), 400);
        Check.same("24 the 401st is too late", clock.ends(1, 1), -1);
        Check.same("26 the 401st falls", clock.movesIn(1, 1, 9999), 400);
        Check.same("26 two at once, without a flag", clock.movesIn(1, 1, 300), 302);
    }

    private static void paces() {
        Supplier<GameClock> begun = WouldBeTest::game;
        for (int pace : new int[] {0, -1, 10000, Integer.MIN_VALUE, Integer.MAX_VALUE}) {
            Check.refuses("24 white " + pace, IAE, begun, c -> c.ends(pace, 1));
            Check.refuses("24 black " + pace, IAE, begun, c -> c.ends(1, pace));
            Check.refuses("25 white " + pace, IAE, begun, c -> c.endsAfter(pace, 1));
            Check.refuses("25 black " + pace, IAE, begun, c -> c.endsAfter(1, pace));
            Check.refuses("26 white " + pace, IAE, begun, c -> c.movesIn(pace, 1, 1));
            Check.refuses("26 black " + pace, IAE, begun, c -> c.movesIn(1, pace, 1));
            Check.refuses("34 white " + pace, IAE, begun, c -> c.aheadAfter(pace, 1, 1));
            Check.refuses("34 black " + pace, IAE, begun, c -> c.aheadAfter(1, pace, 1));
            Check.refuses("24 not begun " + pace, IAE, GameClock::new, c -> c.ends(1, pace));
            Check.refuses("25 not begun " + pace, IAE, GameClock::new, c -> c.endsAfter(pace, 1));
            Check.refuses("26 not begun " + pace, IAE, GameClock::new, c -> c.movesIn(pace, 1, 1));
            Check.refuses("34 not begun " + pace, IAE, GameClock::new, c -> c.aheadAfter(pace, 1, 1));
        }
        GameClock clock = game();
        Check.same("24 the greatest paces", clock.ends(9999, 9999), 1);
        Check.same("24 the least paces", clock.ends(1, 1), -1);
        Check.same("26 the greatest", clock.movesIn(9999, 9999, 9999), 0);
    }

    private static void asksLeaveTheClockAlone() {
        Check.leavesAlone("14 to 34", WouldBeTest::game, c -> {
            c.pace(0);
            c.lasts(0, 30);
            c.lasts(1, 9999);
            c.leftIn(0, 5000);
            c.overIn();
            c.canSeal();
            c.sealIn();
            c.ends(10, 20);
            c.endsAfter(9999, 1);
            c.movesIn(1, 1, 9999);
            c.paceFor(1, 9);
            c.needs(0, 30, 80);
            c.aheadAfter(5, 9, 20);
        });
    }
}
