import java.util.function.Supplier;

/** Promises 7 to 13, 16 to 19 and 27 to 31: what a clock tells of itself and of its log. */
public final class AskTest {
    private static final Class<?> IAE = IllegalArgumentException.class;
    private static final Class<?> IOOBE = IndexOutOfBoundsException.class;
    private static final String TEXT = "period moves 2 time 100 bonus 5 delay 3 back 4; period moves 0 time 40 bonus 1;"
            + " extra 2 time 20; session 30; hand black 10;";

    private AskTest() {
    }

    public static void main(String[] args) {
        promise7Property();
        promise7Results();
        promise8Period();
        promise9Side();
        promise9Extra();
        promise10Logged();
        promise10LogLimit();
        promise11FlagIn();
        promise12DelayLeft();
        promise13Shown();
        promise16Ahead();
        promise17Longest();
        promise18MeanThink();
        promise19Share();
        promise27Gained();
        promise28Finished();
        promise29Spent();
        promise30Slowest();
        promise31Within();
        asksLeaveTheClockAlone();
        Check.end("AskTest");
    }

    /** White: 10 ticks (7 lost, 9 gained), black: 2 ticks (nothing lost, 5 gained), white thinks for 20 (17 lost). */
    private static GameClock played() {
        GameClock clock = Check.begun(TEXT);
        Check.same("white's gains", Check.moveAfter(clock, 10), 9);
        Check.same("black's gains", Check.moveAfter(clock, 2), 5);
        Check.same("white has left", clock.tick(20), 85);
        return clock;
    }

    private static void row(String what, GameClock clock, int side, int... due) {
        for (int i = 0; i < due.length; i++) {
            Check.same(what + " " + i, clock.side(side, i), due[i]);
        }
    }

    private static void promise7Property() {
        GameClock clock = played();
        int[] due = {1, 0, 2, 2, 20, 30, 32, 32, 2, -1, 0, -1};
        for (int what = 0; what < due.length; what++) {
            Check.same("7 property " + what, clock.property(what), due[what]);
        }
        Check.refuses("7 property 12", IAE, AskTest::played, c -> c.property(12));
        Check.refuses("7 property -1", IAE, AskTest::played, c -> c.property(-1));
        Check.refuses("7 property least", IAE, AskTest::played, c -> c.property(Integer.MIN_VALUE));
        Check.refuses("7 property most", IAE, AskTest::played, c -> c.property(Integer.MAX_VALUE));
        clock.pause();
        Check.same("7 paused", clock.property(0), 2);
        clock.proceed();
        clock.seal();
        Check.same("7 adjourned", clock.property(0), 3);
        clock.open();
        Check.same("7 moves", clock.property(8), 3);
        Check.same("7 side to move", clock.property(1), 1);
        Check.same("7 session anew", clock.property(6), 0);
        Check.same("7 time goes on", clock.property(7), 32);
        Check.same("7 without claims", new GameClock().property(10), 0);
        Check.same("7 with claims", Check.loaded(TEXT + "claims;").property(10), 1);
    }

    private static void promise7Results() {
        GameClock clock = Check.begun("period moves 0 time 5;");
        clock.tick(5);
        Check.same("7 over", clock.property(0), 4);
        Check.same("7 first flag", clock.property(9), 0);
        Check.same("7 black won", clock.property(11), 1);
        clock = Check.begun("period moves 0 time 5; claims;");
        clock.move();
        clock.tick(7);
        Check.same("7 first flag is black's", clock.property(9), 1);
        Check.same("7 not over", clock.property(11), -1);
        clock.move();
        clock.tick(5);
        Check.same("7 the first flag stays the first", clock.property(9), 1);
        Check.same("7 time with fallen flags", clock.property(7), 12);
        Check.same("7 session time without a session", clock.property(6), 12);
    }

    private static void promise8Period() {
        GameClock clock = played();
        int[][] due = {{2, 100, 5, 3, 4}, {0, 40, 1, 0, 0}};
        for (int period = 0; period < 2; period++) {
            for (int what = 0; what < 5; what++) {
                Check.same("8 period " + period + " " + what, clock.period(period, what), due[period][what]);
            }
        }
        Check.refuses("8 period -1", IOOBE, AskTest::played, c -> c.period(-1, 0));
        Check.refuses("8 period 2", IOOBE, AskTest::played, c -> c.period(2, 0));
        Check.refuses("8 both wrong", IOOBE, AskTest::played, c -> c.period(2, 5));
        Check.refuses("8 what 5", IAE, AskTest::played, c -> c.period(0, 5));
        Check.refuses("8 what -1", IAE, AskTest::played, c -> c.period(1, -1));
        Check.refuses("8 most", IOOBE, AskTest::played, c -> c.period(Integer.MAX_VALUE, Integer.MAX_VALUE));
        Check.refuses("8 least", IAE, AskTest::played, c -> c.period(0, Integer.MIN_VALUE));
        Supplier<GameClock> five = () -> Check.loaded("period moves 1 time 1;period moves 2 time 2;"
                + "period moves 3 time 3;period moves 4 time 4;period moves 5 time 5;");
        Check.same("8 period 4", five.get().period(4, 1), 5);
        Check.refuses("8 period 5", IOOBE, five, c -> c.period(5, 0));
    }

    private static void promise9Side() {
        GameClock clock = played();
        row("9 white", clock, 0, 85, 1, 0, 1, 2, 0, 20, 17, 0, 0, 30, 1);
        row("9 black", clock, 1, 115, 1, 0, 1, 2, 0, 0, 0, 0, 0, 2, 1);
        clock.setBare(1, true);
        clock.move();
        row("9 white in period 1", clock, 0, 134, 2, 1, 0, 2, 0, 0, 0, 0, 0, 30, -1);
        row("9 black bare", clock, 1, 115, 1, 0, 1, 2, 0, 0, 0, 0, 1, 2, 1);
        Check.refuses("9 side -1", IOOBE, AskTest::played, c -> c.side(-1, 0));
        Check.refuses("9 side 2", IOOBE, AskTest::played, c -> c.side(2, 0));
        Check.refuses("9 both wrong", IOOBE, AskTest::played, c -> c.side(2, 12));
        Check.refuses("9 what 12", IAE, AskTest::played, c -> c.side(0, 12));
        Check.refuses("9 what -1", IAE, AskTest::played, c -> c.side(1, -1));
        Check.refuses("9 least", IOOBE, AskTest::played, c -> c.side(Integer.MIN_VALUE, 0));
    }

    private static void promise9Extra() {
        GameClock clock = Check.begun("period moves 0 time 5 bonus 3 back 9; extra 2 time 4; claims;");
        clock.tick(5);
        row("9 the first extra", clock, 0, 4, 0, 0, 0, 1, 1, 5, 5, 0, 0, 5, -1);
        clock.tick(1);
        Check.same("9 lets it have left 4", clock.move(), 1);
        row("9 behind the move", clock, 0, 4, 1, 0, 1, 1, 1, 0, 0, 0, 0, 6, -1);
        clock.move();
        clock.tick(7);
        row("9 the second extra", clock, 0, 1, 1, 0, 1, 0, 1, 7, 7, 0, 0, 13, -1);
        clock.tick(3);
        row("9 fallen", clock, 0, 0, 1, 0, 1, 0, 1, 10, 8, 1, 0, 16, -1);
        Check.same("9 no gains behind the fall", clock.move(), 0);
        row("9 moved with a fallen flag", clock, 0, 0, 2, 0, 2, 0, 1, 0, 0, 1, 0, 16, -1);
    }

    private static void promise10Logged() {
        GameClock clock = played();
        clock.move();
        int[][] due = {{0, 20, 17, 9, 134, 32}, {1, 2, 0, 5, 115, 12}, {0, 10, 7, 9, 102, 10}};
        for (int index = 0; index < due.length; index++) {
            for (int what = 0; what < 6; what++) {
                Check.same("10 logged " + index + " " + what, clock.logged(index, what), due[index][what]);
            }
        }
        Check.refuses("10 index -1", IOOBE, AskTest::played, c -> c.logged(-1, 0));
        Check.refuses("10 index 2", IOOBE, AskTest::played, c -> c.logged(2, 0));
        Check.refuses("10 both wrong", IOOBE, AskTest::played, c -> c.logged(2, 6));
        Check.refuses("10 what 6", IAE, AskTest::played, c -> c.logged(0, 6));
        Check.refuses("10 what -1", IAE, AskTest::played, c -> c.logged(1, -1));
        Check.refuses("10 empty", IOOBE, GameClock::new, c -> c.logged(0, 0));
        Check.refuses("10 most", IOOBE, AskTest::played, c -> c.logged(Integer.MAX_VALUE, 0));
        Check.refuses("10 least", IOOBE, AskTest::played, c -> c.logged(Integer.MIN_VALUE, 0));
    }

    /** 45 moves; move k (from 1) takes k ticks. */
    private static GameClock manyMoves(int moves) {
        GameClock clock = new GameClock();
        clock.start();
        for (int k = 1; k <= moves; k++) {
            Check.moveAfter(clock, k);
        }
        return clock;
    }

    private static void promise10LogLimit() {
        GameClock clock = manyMoves(45);
        Check.same("10 the last", clock.logged(0, 1), 45);
        Check.same("10 its side", clock.logged(0, 0), 0);
        Check.same("10 the 40th last", clock.logged(39, 1), 6);
        Check.same("10 its side", clock.logged(39, 0), 1);
        Check.same("10 its time", clock.logged(39, 5), 21);
        Check.refuses("10 the 41st last", IOOBE, () -> manyMoves(45), c -> c.logged(40, 0));
        Check.refuses("10 the 40th of 39", IOOBE, () -> manyMoves(39), c -> c.logged(39, 0));
        Check.same("10 the 40th of 40", manyMoves(40).logged(39, 1), 1);
        Check.same("17 of the log alone", clock.longest(1), 44);
        Check.same("18 of the log alone", clock.meanThink(0), 26.0);
        Check.same("18 of the log alone", clock.meanThink(1), 25.0);
        Check.same("31 of the log alone", clock.within(0, 9), 2);
        Check.same("31 of the log alone", clock.within(1, 9), 2);
        clock = new GameClock();
        clock.start();
        Check.moveAfter(clock, 500);
        for (int k = 0; k < 40; k++) {
            Check.same("17 while it is in the log", clock.longest(0), 500);
            Check.same("30 while it is in the log", clock.slowest(), k);
            clock.move();
        }
        Check.same("17 when it left the log", clock.longest(0), 0);
        Check.same("30 when it left the log", clock.slowest(), 0);
    }

    private static void promise11FlagIn() {
        GameClock clock = Check.loaded(TEXT);
        Check.same("11 ahead of the game", clock.flagIn(0), 103);
        Check.same("11 ahead of the game", clock.flagIn(1), 113);
        clock = played();
        Check.same("11 the delay is used up", clock.flagIn(0), 85);
        Check.same("11 the other side", clock.flagIn(1), 118);
        clock.move();
        Check.same("11 with the extra periods", clock.flagIn(0), 134 + 2 * 20);
        clock = Check.begun("period moves 0 time 5 delay 3; extra 2 time 4; claims;");
        clock.tick(2);
        Check.same("11 in the delay", clock.flagIn(0), 14);
        clock.tick(7);
        Check.same("11 in an extra period", clock.flagIn(0), 7);
        clock.tick(6);
        Check.same("11 the last tick", clock.flagIn(0), 1);
        clock.tick(1);
        Check.same("11 fallen", clock.flagIn(0), 0);
        Check.same("11 the flag fell", clock.side(0, 8), 1);
        clock.move();
        Check.same("11 fallen stays fallen", clock.flagIn(0), 0);
        Check.refuses("11 side -1", IOOBE, AskTest::played, c -> c.flagIn(-1));
        Check.refuses("11 side 2", IOOBE, AskTest::played, c -> c.flagIn(2));
    }

    private static void promise12DelayLeft() {
        GameClock clock = Check.begun("period moves 1 time 50 delay 6; period moves 0 time 9 delay 2;");
        Check.same("12 at first", clock.delayLeft(0), 6);
        clock.tick(4);
        Check.same("12 in the delay", clock.delayLeft(0), 2);
        Check.same("12 the other side", clock.delayLeft(1), 6);
        clock.tick(2);
        Check.same("12 at its end", clock.delayLeft(0), 0);
        clock.tick(5);
        Check.same("12 behind it", clock.delayLeft(0), 0);
        clock.setPeriod(0, 3, 15);
        Check.same("12 by its think", clock.delayLeft(0), 4);
        clock.move();
        Check.same("12 of the next period", clock.delayLeft(0), 2);
        Check.refuses("12 side -1", IOOBE, AskTest::played, c -> c.delayLeft(-1));
        Check.refuses("12 side 2", IOOBE, AskTest::played, c -> c.delayLeft(2));
    }

    private static int shownWith(int ticks) {
        GameClock clock = Check.loaded("period moves 0 time " + ticks + ";");
        Check.same("13 both the same", clock.shown(1), clock.shown(0));
        return clock.shown(0);
    }

    private static void promise13Shown() {
        Check.same("13 of 1", shownWith(1), 1);
        Check.same("13 of 9", shownWith(9), 1);
        Check.same("13 of 10", shownWith(10), 1);
        Check.same("13 of 11", shownWith(11), 2);
        Check.same("13 of 590", shownWith(590), 59);
        Check.same("13 of 591", shownWith(591), 100);
        Check.same("13 of 35990", shownWith(35990), 5959);
        Check.same("13 of 35991", shownWith(35991), 10000);
        Check.same("13 of 99999", shownWith(99999), 24640);
        GameClock clock = Check.begun("period moves 0 time 5;");
        clock.tick(5);
        Check.same("13 of 0", clock.shown(0), 0);
        Check.same("13 of the other side", clock.shown(1), 1);
        Check.refuses("13 side -1", IOOBE, AskTest::played, c -> c.shown(-1));
        Check.refuses("13 side 2", IOOBE, AskTest::played, c -> c.shown(2));
    }

    private static void promise16Ahead() {
        Check.same("16 at first", new GameClock().ahead(), 0);
        Check.same("16 by hand", Check.loaded(TEXT).ahead(), -10);
        Check.same("16 played", played().ahead(), 85 - 115);
        Check.same("16 white ahead", Check.loaded("period moves 0 time 5;hand white 7;").ahead(), 7);
    }

    private static GameClock thought() {
        GameClock clock = Check.begun("period moves 0 time 900 bonus 2 delay 1 back 3;");
        int[] ticks = {4, 9, 7, 0, 0, 9, 7, 1};
        for (int i : ticks) {
            Check.moveAfter(clock, i);
        }
        clock.tick(50);
        return clock;
    }

    private static void promise17Longest() {
        GameClock clock = thought();
        Check.same("17 white, without the present move", clock.longest(0), 7);
        Check.same("17 black", clock.longest(1), 9);
        Check.same("17 without moves", new GameClock().longest(0), 0);
        Check.refuses("17 side -1", IOOBE, AskTest::played, c -> c.longest(-1));
        Check.refuses("17 side 2", IOOBE, AskTest::played, c -> c.longest(2));
    }

    private static void promise18MeanThink() {
        GameClock clock = thought();
        Check.same("18 white", clock.meanThink(0), 18.0 / 4.0);
        Check.same("18 black", clock.meanThink(1), 19.0 / 4.0);
        Check.same("18 without moves", new GameClock().meanThink(1), 0.0);
        clock = Check.begun("period moves 0 time 900;");
        Check.moveAfter(clock, 1);
        Check.same("18 of one move", clock.meanThink(0), 1.0);
        Check.same("18 the other side without", clock.meanThink(1), 0.0);
        clock.move();
        Check.moveAfter(clock, 1);
        clock.move();
        Check.moveAfter(clock, 2);
        Check.same("18 thirds", clock.meanThink(0), 4.0 / 3.0);
        Check.same("18 zeros", clock.meanThink(1), 0.0);
        Check.refuses("18 side -1", IOOBE, AskTest::played, c -> c.meanThink(-1));
        Check.refuses("18 side 2", IOOBE, AskTest::played, c -> c.meanThink(2));
    }

    private static void promise19Share() {
        GameClock clock = Check.begun(TEXT);
        Check.same("19 at the time 0", clock.share(0), 0.0f);
        Check.same("19 at the time 0", clock.share(1), 0.0f);
        clock.tick(1);
        Check.same("19 at the time 1", clock.share(0), 1.0f);
        Check.same("19 at the time 1", clock.share(1), 0.0f);
        clock = played();
        Check.same("19 white", clock.share(0), 30.0f / 32.0f);
        Check.same("19 black", clock.share(1), 2.0f / 32.0f);
        clock = Check.begun("period moves 0 time 5 delay 1; claims;");
        Check.moveAfter(clock, 1);
        Check.moveAfter(clock, 2);
        Check.same("19 thirds, delays too", clock.share(0), 1.0f / 3.0f);
        clock.tick(7);
        Check.same("19 with a fallen flag", clock.share(0), 8.0f / 10.0f);
        clock = Check.begun("period moves 0 time 50; session 4;");
        clock.tick(4);
        clock.seal();
        clock.open();
        Check.same("19 by the time, not by that of the session", clock.share(0), 1.0f);
        clock.tick(4);
        Check.same("19 by the time, not by that of the session", clock.share(0), 4.0f / 8.0f);
        Check.refuses("19 side -1", IOOBE, AskTest::played, c -> c.share(-1));
        Check.refuses("19 side 2", IOOBE, AskTest::played, c -> c.share(2));
    }

    private static void promise27Gained() {
        GameClock clock = thought();
        // white: 2 + 3, 2 + 3, 2, 2 + 3; black: 2 + 3, 2, 2 + 3, 2
        Check.same("27 white", clock.gained(0), 17);
        Check.same("27 black", clock.gained(1), 14);
        Check.same("27 without moves", new GameClock().gained(0), 0);
        clock = Check.begun("period moves 0 time 5; extra 1 time 4;");
        clock.tick(5);
        clock.give(0, 30);
        Check.same("27 gains below 0", clock.move(), -30);
        Check.same("27 their sum", clock.gained(0), -30);
        clock = new GameClock();
        Check.load(clock, "period moves 0 time 900 bonus 3;");
        clock.start();
        for (int i = 0; i < 50; i++) {
            clock.move();
        }
        Check.same("27 of the log alone", clock.gained(0), 60);
        Check.refuses("27 side -1", IOOBE, AskTest::played, c -> c.gained(-1));
        Check.refuses("27 side 2", IOOBE, AskTest::played, c -> c.gained(2));
    }

    private static void promise28Finished() {
        GameClock clock = Check.begun("period moves 2 time 50; period moves 1 time 9;");
        // by the moves that the side made: two end the first period, and each further one a round of the last
        int[] due = {0, 0, 1, 2, 3, 4};
        for (int moves = 0; moves < 10; moves++) {
            Check.same("28 white behind " + moves, clock.finished(0), due[(moves + 1) / 2]);
            Check.same("28 black behind " + moves, clock.finished(1), due[moves / 2]);
            clock.move();
        }
        clock = new GameClock();
        clock.start();
        clock.move();
        Check.same("28 without an end", clock.finished(0), 0);
        Check.refuses("28 side -1", IOOBE, AskTest::played, c -> c.finished(-1));
        Check.refuses("28 side 2", IOOBE, AskTest::played, c -> c.finished(2));
    }

    private static void promise29Spent() {
        GameClock clock = Check.begun("period moves 2 time 50 delay 1; period moves 1 time 9 bonus 3;");
        int[] whiteTicks = {5, 3, 4, 6};
        for (int ticks : whiteTicks) {
            Check.moveAfter(clock, ticks);
            Check.moveAfter(clock, 2);
        }
        Check.same("29 white in 0", clock.spent(0, 0), 4 + 2);
        Check.same("29 white in all rounds of 1", clock.spent(0, 1), 4 + 6);
        Check.same("29 black in 0", clock.spent(1, 0), 1 + 1);
        Check.same("29 black in 1", clock.spent(1, 1), 2 + 2);
        clock.tick(5);
        Check.same("29 with the present move", clock.spent(0, 1), 15);
        clock = Check.begun("period moves 0 time 5; extra 2 time 4; claims;");
        clock.tick(20);
        Check.same("29 with extra periods, up to the fall", clock.spent(0, 0), 13);
        Check.same("29 a period not reached", played().spent(0, 1), 0);
        Check.refuses("29 side -1", IOOBE, AskTest::played, c -> c.spent(-1, 0));
        Check.refuses("29 side 2", IOOBE, AskTest::played, c -> c.spent(2, 0));
        Check.refuses("29 period -1", IOOBE, AskTest::played, c -> c.spent(0, -1));
        Check.refuses("29 period 2", IOOBE, AskTest::played, c -> c.spent(0, 2));
    }

    private static void promise30Slowest() {
        GameClock clock = thought();
        // thinks, the latest first: 1 7 9 0 0 7 9 4
        Check.same("30 the latest of two", clock.slowest(), 2);
        Check.same("30 empty", new GameClock().slowest(), -1);
        clock = new GameClock();
        clock.start();
        clock.move();
        Check.same("30 one of 0 ticks", clock.slowest(), 0);
        clock.move();
        Check.same("30 the later of two", clock.slowest(), 0);
    }

    private static void promise31Within() {
        GameClock clock = thought();
        // white 4 7 0 7, black 9 0 9 1
        Check.same("31 white 0", clock.within(0, 0), 1);
        Check.same("31 white 3", clock.within(0, 3), 1);
        Check.same("31 white 4", clock.within(0, 4), 2);
        Check.same("31 white 6", clock.within(0, 6), 2);
        Check.same("31 white 7", clock.within(0, 7), 4);
        Check.same("31 black 0", clock.within(1, 0), 1);
        Check.same("31 black 8", clock.within(1, 8), 2);
        Check.same("31 black 9999", clock.within(1, 9999), 4);
        Check.refuses("31 side -1", IOOBE, AskTest::played, c -> c.within(-1, 5));
        Check.refuses("31 side 2", IOOBE, AskTest::played, c -> c.within(2, 5));
        Check.refuses("31 both wrong", IOOBE, AskTest::played, c -> c.within(2, -5));
        Check.refuses("31 ticks -1", IAE, AskTest::played, c -> c.within(0, -1));
        Check.refuses("31 ticks 10000", IAE, AskTest::played, c -> c.within(0, 10000));
    }

    private static void asksLeaveTheClockAlone() {
        Check.leavesAlone("7 to 31", AskTest::played, c -> {
            c.property(7);
            c.period(1, 1);
            c.side(0, 11);
            c.logged(1, 3);
            c.flagIn(0);
            c.delayLeft(1);
            c.shown(0);
            c.ahead();
            c.longest(0);
            c.meanThink(0);
            c.share(0);
            c.gained(1);
            c.finished(0);
            c.spent(0, 1);
            c.slowest();
            c.within(0, 8);
            c.errorCode();
            c.errorPosition();
            c.undoCount();
        });
    }
}
