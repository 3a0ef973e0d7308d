import java.util.function.Consumer;
import java.util.function.Supplier;

/** Promises 35 to 52: what changes the game, the slots and undo; and sections 3 and 4 of the terms. */
public final class ChangeTest {
    private static final Class<?> IAE = IllegalArgumentException.class;
    private static final Class<?> IOOBE = IndexOutOfBoundsException.class;
    private static final Class<?> ISE = IllegalStateException.class;
    private static final String TEXT = "period moves 2 time 100 bonus 5 delay 3 back 4; period moves 1 time 40 bonus 1;"
            + " session 30; hand black 10;";
    private static final String FIVE = "period moves 0 time 5;";
    private static final String CLAIMED = FIVE + "claims; session 3;";

    private ChangeTest() {
    }

    public static void main(String[] args) {
        promise35Start();
        promise36Tick();
        promise36TickOfManyEqualsManyTicks();
        promise36FlagFalls();
        promise36Extra();
        promise36Claims();
        promise37Move();
        promise37Periods();
        promise37Extra();
        promise37Fallen();
        promise38And39Pause();
        promise40And41Seal();
        promise42Claim();
        promise42ClaimRefused();
        promise43Resign();
        promise44Give();
        promise44GiveRefused();
        promise45SetBare();
        promise46SetClaims();
        promise47SetPeriod();
        promise48Swap();
        promise49And50Slots();
        promise50RestoreIsUndone();
        promise51Undo();
        promise51UndoRestoresEverything();
        promise52UndoCount();
        eachChangeIsUndone();
        Check.end("ChangeTest");
    }

    private static GameClock running() {
        GameClock clock = Check.begun(TEXT);
        Check.moveAfter(clock, 10);
        clock.tick(2);
        return clock;
    }

    private static GameClock paused() {
        GameClock clock = running();
        clock.pause();
        return clock;
    }

    private static GameClock adjourned() {
        GameClock clock = running();
        clock.tick(50);
        clock.seal();
        return clock;
    }

    private static GameClock over() {
        GameClock clock = running();
        clock.resign(0);
        return clock;
    }

    private static GameClock notBegun() {
        return Check.loaded(TEXT);
    }

    private static void row(String what, GameClock clock, int side, int... due) {
        for (int i = 0; i < due.length; i++) {
            Check.same(what + " " + i, clock.side(side, i), due[i]);
        }
    }

    @SafeVarargs
    private static void refusedIn(String what, Consumer<GameClock> call, Supplier<GameClock>... states) {
        for (Supplier<GameClock> state : states) {
            Check.refuses(what + " in the state " + state.get().property(0), ISE, state, call);
        }
    }

    private static void promise35Start() {
        GameClock clock = notBegun();
        Check.same("35 start", clock.start(), 0);
        Check.same("35 the state", clock.property(0), 1);
        Check.same("35 the time", clock.property(7), 0);
        Check.same("35 undoCount", clock.undoCount(), 2);
        refusedIn("35 start", c -> c.start(), ChangeTest::running, ChangeTest::paused, ChangeTest::adjourned,
                ChangeTest::over);
    }

    private static void promise36Tick() {
        GameClock clock = Check.begun(TEXT);
        Check.same("36 in the delay", clock.tick(3), 100);
        Check.same("36 think", clock.side(0, 6), 3);
        Check.same("36 nothing lost", clock.side(0, 7), 0);
        Check.same("36 behind the delay", clock.tick(1), 99);
        Check.same("36 many ticks", clock.tick(98), 1);
        row("36 white", clock, 0, 1, 0, 0, 0, 0, 0, 102, 99, 0, 0, 102, 2);
        row("36 black", clock, 1, 110, 0, 0, 0, 0, 0, 0, 0, 0, 0, 0, 2);
        Check.same("36 the time", clock.property(7), 102);
        Check.same("36 the time of the session", clock.property(6), 102);
        clock = Check.begun(TEXT);
        Check.same("36 through the delay at once", clock.tick(10), 93);
        Supplier<GameClock> running = ChangeTest::running;
        Check.refuses("36 tick 0", IAE, running, c -> c.tick(0));
        Check.refuses("36 tick -1", IAE, running, c -> c.tick(-1));
        Check.refuses("36 tick 10000", IAE, running, c -> c.tick(10000));
        Check.refuses("36 tick most", IAE, running, c -> c.tick(Integer.MAX_VALUE));
        Check.refuses("36 tick least", IAE, running, c -> c.tick(Integer.MIN_VALUE));
        Check.refuses("36 tick 0 when over", IAE, ChangeTest::over, c -> c.tick(0));
        for (GameClock still : new GameClock[] {notBegun(), paused(), adjourned(), over()}) {
            int time = still.property(7);
            int count = still.undoCount();
            int due = still.side(still.property(1), 0);
            Check.same("36 in the state " + still.property(0), still.tick(9999), due);
            Check.same("36 the time stays", still.property(7), time);
            Check.same("36 what is left stays", still.side(still.property(1), 0), due);
            Check.same("36 can be undone", still.undoCount(), Math.min(6, count + 1));
        }
    }

    private static void promise36TickOfManyEqualsManyTicks() {
        String text = "period moves 1 time 6 bonus 1 delay 2 back 2; period moves 0 time 4 delay 1 back 3;"
                + " extra 3 time 3; claims;";
        for (int first = 1; first < 25; first++) {
            GameClock one = Check.begun(text);
            GameClock many = Check.begun(text);
            for (int moves = 0; moves < 3; moves++) {
                for (int i = 0; i < first; i++) {
                    one.tick(1);
                }
                many.tick(first);
                one.move();
                many.move();
                Check.same("36 time", one.property(7), many.property(7));
                for (int what = 0; what < 12; what++) {
                    Check.same("36 white " + what, many.side(0, what), one.side(0, what));
                    Check.same("36 black " + what, many.side(1, what), one.side(1, what));
                }
                Check.same("36 spent", many.spent(0, 1), one.spent(0, 1));
            }
        }
    }

    private static void promise36FlagFalls() {
        GameClock clock = Check.begun(FIVE);
        Check.same("36 up to the last tick", clock.tick(4), 1);
        Check.same("36 not over", clock.property(0), 1);
        Check.same("36 the fall", clock.tick(1), 0);
        row("36 white", clock, 0, 0, 0, 0, 0, 0, 0, 5, 5, 1, 0, 5, -1);
        Check.same("36 over", clock.property(0), 4);
        Check.same("36 black won", clock.property(11), 1);
        Check.same("36 the first flag", clock.property(9), 0);
        clock = Check.begun(FIVE);
        Check.same("36 the ticks behind the fall", clock.tick(500), 0);
        Check.same("36 do not pass", clock.property(7), 5);
        Check.same("36 nor in the session", clock.property(6), 5);
        Check.same("36 nor for the side", clock.side(0, 10), 5);
        Check.same("36 nor for its think", clock.side(0, 6), 5);
        clock = Check.begun(FIVE);
        clock.move();
        clock.tick(5);
        Check.same("36 white won", clock.property(11), 0);
        Check.same("36 black's flag", clock.property(9), 1);
        clock = Check.begun(FIVE);
        clock.setBare(1, true);
        clock.tick(5);
        Check.same("36 black is bare", clock.property(11), 2);
        clock = Check.begun(FIVE);
        clock.setBare(0, true);
        clock.tick(5);
        Check.same("36 white is bare, and lost", clock.property(11), 1);
        clock = Check.begun("period moves 1 time 5; period moves 0 time 5; extra 1 time 5;");
        clock.tick(5);
        Check.same("36 no extra periods in a period of moves", clock.property(11), 1);
        Check.same("36 they are left", clock.side(0, 4), 1);
    }

    private static void promise36Extra() {
        GameClock clock = Check.begun("period moves 0 time 5 delay 1; extra 2 time 4;");
        Check.same("36 the first extra period", clock.tick(6), 4);
        row("36 in it", clock, 0, 4, 0, 0, 0, 1, 1, 6, 5, 0, 0, 6, -1);
        Check.same("36 no delay anew", clock.tick(3), 1);
        Check.same("36 the second extra period", clock.tick(1), 4);
        row("36 in it", clock, 0, 4, 0, 0, 0, 0, 1, 10, 9, 0, 0, 10, -1);
        Check.same("36 the flag falls in the last", clock.tick(4), 0);
        Check.same("36 over", clock.property(11), 1);
        Check.same("36 spent", clock.spent(0, 0), 13);
        clock = Check.begun("period moves 0 time 5 delay 1; extra 2 time 4;");
        Check.same("36 both at once", clock.tick(12), 2);
        Check.same("36 lost in all", clock.side(0, 7), 11);
        clock = Check.begun("period moves 0 time 5; extra 9 time 4;");
        Check.same("36 nine at once", clock.tick(40), 1);
        Check.same("36 none is left", clock.side(0, 4), 0);
        Check.same("36 and then the flag", clock.tick(9), 0);
        clock = Check.begun("period moves 0 time 5; extra 9 time 4;");
        clock.tick(9999);
        Check.same("36 all at once", clock.property(7), 5 + 9 * 4);
        Check.same("36 all at once", clock.property(0), 4);
    }

    private static void promise36Claims() {
        GameClock clock = Check.begun(CLAIMED);
        Check.same("36 fallen", clock.tick(8), 0);
        row("36 white", clock, 0, 0, 0, 0, 0, 0, 0, 8, 5, 1, 0, 8, -1);
        Check.same("36 the time goes on", clock.property(7), 8);
        Check.same("36 and that of the session", clock.property(6), 8);
        Check.same("36 not over", clock.property(0), 1);
        clock.setClaims(false);
        Check.same("36 its clock stays at 0", clock.tick(9), 0);
        Check.same("36 that does not end the game", clock.property(0), 1);
        clock.move();
        clock.tick(99);
        Check.same("36 the second flag ends it", clock.property(0), 4);
        Check.same("36 the other side won", clock.property(11), 0);
        Check.same("36 the first flag", clock.property(9), 0);
        Check.same("36 the time at the end", clock.property(7), 22);
    }

    private static void promise37Move() {
        GameClock clock = Check.begun(TEXT);
        clock.tick(5);
        Check.same("37 what was lost comes back", clock.move(), 5 + 2);
        row("37 white", clock, 0, 105, 1, 0, 1, 0, 0, 0, 0, 0, 0, 5, 1);
        Check.same("37 the other side", clock.property(1), 1);
        Check.same("37 both moves", clock.property(8), 1);
        clock.tick(50);
        Check.same("37 at most the back", clock.move(), 5 + 4);
        row("37 black", clock, 1, 72, 1, 0, 1, 0, 0, 0, 0, 0, 0, 50, 1);
        Check.same("37 white again", clock.property(1), 0);
        clock = Check.begun(TEXT);
        clock.tick(3);
        Check.same("37 nothing was lost", clock.move(), 5);
        Check.same("37 at once", clock.move(), 5);
        Check.same("37 the log", clock.logged(1, 1), 3);
        refusedIn("37 move", c -> c.move(), ChangeTest::notBegun, ChangeTest::paused, ChangeTest::adjourned,
                ChangeTest::over);
    }

    private static void promise37Periods() {
        GameClock clock = Check.begun("period moves 2 time 50 bonus 1; period moves 1 time 9 bonus 2;");
        clock.move();
        clock.move();
        Check.same("37 the gains without the time", clock.move(), 1);
        row("37 the next period", clock, 0, 61, 2, 1, 0, 0, 0, 0, 0, 0, 0, 0, 1);
        Check.same("37 the log with the time", clock.logged(0, 4), 61);
        Check.same("37 finished", clock.finished(0), 1);
        clock.move();
        Check.same("37 gains of the last period", clock.move(), 2);
        row("37 the last one anew", clock, 0, 72, 3, 1, 0, 0, 0, 0, 0, 0, 0, 0, 1);
        Check.same("37 finished twice", clock.finished(0), 2);
        clock = Check.begun("period moves 1 time 50 delay 2 back 9; period moves 0 time 9 delay 5 back 1;");
        clock.tick(7);
        Check.same("37 by the period that ends", clock.move(), 5);
        clock.move();
        clock.tick(7);
        Check.same("37 by the next period", clock.move(), 1);
        Check.same("37 no period behind moves 0", clock.side(0, 3), 1);
        clock = Check.begun("period moves 1 time 5; period moves 1 time 7; period moves 1 time 9;"
                + "period moves 0 time 1;");
        int[] left = {5, 12, 21, 22, 22};
        for (int i = 0; i < left.length; i++) {
            Check.same("37 each period in its turn", clock.side(0, 2), Math.min(i, 3));
            Check.same("37 the time of each", clock.side(0, 0), left[i]);
            clock.move();
            clock.move();
        }
    }

    private static void promise37Extra() {
        GameClock clock = Check.begun("period moves 0 time 5 bonus 7 back 2; extra 2 time 9;");
        clock.tick(8);
        Check.same("37 what lets it have left 9", clock.move(), 3);
        row("37 white", clock, 0, 9, 1, 0, 1, 1, 1, 0, 0, 0, 0, 8, -1);
        Check.same("37 black has its bonus", clock.move(), 7);
        clock.tick(2);
        Check.same("37 again", clock.move(), 2);
        clock.move();
        clock.give(0, 20);
        Check.same("37 below 0", clock.move(), -20);
        Check.same("37 9 again", clock.side(0, 0), 9);
        clock.move();
        Check.same("37 nothing was lost", clock.move(), 0);
    }

    private static void promise37Fallen() {
        GameClock clock = Check.begun("period moves 2 time 5 bonus 3 back 2; period moves 0 time 9; claims;");
        clock.tick(6);
        Check.same("37 no gains", clock.move(), 0);
        Check.same("37 no gains in the log", clock.logged(0, 3), 0);
        Check.same("37 the think in the log", clock.logged(0, 1), 6);
        Check.same("37 lost in the log", clock.logged(0, 2), 5);
        clock.move();
        Check.same("37 no gains", clock.move(), 0);
        row("37 no time of the next period", clock, 0, 0, 2, 1, 0, 0, 0, 0, 0, 1, 0, 6, -1);
        Check.same("37 left in the log", clock.logged(0, 4), 0);
        Check.same("37 finished", clock.finished(0), 1);
        clock = Check.begun(FIVE + "extra 1 time 4; claims;");
        clock.tick(9);
        Check.same("37 no gains, though in an extra period", clock.move(), 0);
    }

    private static void promise38And39Pause() {
        GameClock clock = running();
        Check.same("38 pause", clock.pause(), 1);
        Check.same("38 the state", clock.property(0), 2);
        Check.same("38 the think stays", clock.side(1, 6), 2);
        Check.same("39 proceed", clock.proceed(), 1);
        Check.same("39 the state", clock.property(0), 1);
        Check.same("39 the think goes on", clock.tick(2), 109);
        Check.same("38 white", Check.begun(TEXT).pause(), 0);
        refusedIn("38 pause", c -> c.pause(), ChangeTest::notBegun, ChangeTest::paused, ChangeTest::adjourned,
                ChangeTest::over);
        refusedIn("39 proceed", c -> c.proceed(), ChangeTest::notBegun, ChangeTest::running, ChangeTest::adjourned,
                ChangeTest::over);
    }

    private static GameClock nearlySealed() {
        GameClock clock = Check.begun(TEXT);
        clock.tick(29);
        return clock;
    }

    private static GameClock withoutSession() {
        GameClock clock = new GameClock();
        clock.start();
        clock.tick(500);
        return clock;
    }

    private static GameClock pausedBehindSession() {
        GameClock clock = nearlySealed();
        clock.tick(1);
        clock.pause();
        return clock;
    }

    private static void promise40And41Seal() {
        GameClock clock = nearlySealed();
        clock.tick(1);
        Check.same("40 seal", clock.seal(), 0);
        Check.same("40 the state", clock.property(0), 3);
        Check.same("40 no move yet", clock.property(8), 0);
        Check.same("40 the side to move", clock.property(1), 0);
        Check.same("40 the session's time", clock.property(6), 30);
        Check.same("40 the think stays", clock.side(0, 6), 30);
        clock.tick(70);
        Check.same("41 open", clock.open(), 5 + 4);
        row("41 white", clock, 0, 100 - 27 + 9, 1, 0, 1, 0, 0, 0, 0, 0, 0, 30, 1);
        Check.same("41 the state", clock.property(0), 1);
        Check.same("41 black is to move", clock.property(1), 1);
        Check.same("41 the session's time", clock.property(6), 0);
        Check.same("41 the time", clock.property(7), 30);
        int[] log = {0, 30, 27, 9, 82, 30};
        for (int what = 0; what < 6; what++) {
            Check.same("41 logged " + what, clock.logged(0, what), log[what]);
        }
        Check.same("40 black seals", adjourned().property(1), 1);
        Check.same("41 black's move", adjourned().open(), 5 + 4);
        Supplier<GameClock> unsealed = () -> {
            GameClock opened = adjourned();
            opened.open();
            return opened;
        };
        refusedIn("40 seal", c -> c.seal(), ChangeTest::notBegun, ChangeTest::running, ChangeTest::paused,
                ChangeTest::adjourned, ChangeTest::over, ChangeTest::nearlySealed, ChangeTest::withoutSession,
                ChangeTest::pausedBehindSession, unsealed);
        refusedIn("41 open", c -> c.open(), ChangeTest::notBegun, ChangeTest::running, ChangeTest::paused,
                ChangeTest::over, unsealed);
    }

    /** Flags are claimed, and those of the sides told have fallen; white is to move. */
    private static GameClock fallen(boolean white, boolean black) {
        GameClock clock = Check.begun(CLAIMED);
        Check.moveAfter(clock, white ? 5 : 4);
        Check.moveAfter(clock, black ? 5 : 4);
        return clock;
    }

    private static void promise42Claim() {
        GameClock clock = fallen(false, true);
        Check.same("42 white claims", clock.claim(0), 0);
        Check.same("42 over", clock.property(0), 4);
        Check.same("42 the result", clock.property(11), 0);
        clock = fallen(true, false);
        Check.same("42 black claims", clock.claim(1), 1);
        Check.same("42 the result", clock.property(11), 1);
        Check.same("42 both fell", fallen(true, true).claim(0), 2);
        Check.same("42 both fell", fallen(true, true).claim(1), 2);
        clock = fallen(false, true);
        clock.setBare(0, true);
        Check.same("42 white is bare", clock.claim(0), 2);
        clock = fallen(false, true);
        clock.setBare(1, true);
        Check.same("42 black is bare", clock.claim(0), 0);
        clock = fallen(true, false);
        clock.setBare(1, true);
        Check.same("42 black is bare and claims", clock.claim(1), 2);
        clock = fallen(true, false);
        clock.pause();
        Check.same("42 paused", clock.claim(1), 1);
        clock = fallen(true, false);
        clock.setClaims(false);
        Check.same("42 without claims", clock.claim(1), 1);
        clock = fallen(true, false);
        clock.seal();
        Check.same("42 adjourned", clock.claim(1), 1);
    }

    private static void promise42ClaimRefused() {
        Check.refuses("42 the own flag alone", ISE, () -> fallen(true, false), c -> c.claim(0));
        Check.refuses("42 the own flag alone", ISE, () -> fallen(false, true), c -> c.claim(1));
        Check.refuses("42 no flag", ISE, () -> fallen(false, false), c -> c.claim(0));
        Check.refuses("42 not begun", ISE, GameClock::new, c -> c.claim(1));
        Check.refuses("42 side -1", IOOBE, () -> fallen(true, true), c -> c.claim(-1));
        Check.refuses("42 side 2", IOOBE, GameClock::new, c -> c.claim(2));
        Supplier<GameClock> ended = () -> {
            GameClock clock = fallen(true, true);
            clock.claim(0);
            return clock;
        };
        Check.refuses("42 over", ISE, ended, c -> c.claim(1));
        Check.refuses("42 over, side 2", IOOBE, ended, c -> c.claim(2));
    }

    private static void promise43Resign() {
        Check.same("43 white resigns", running().resign(0), 1);
        Check.same("43 black resigns", running().resign(1), 0);
        GameClock clock = notBegun();
        Check.same("43 not begun", clock.resign(1), 0);
        Check.same("43 over", clock.property(0), 4);
        Check.same("43 the result", clock.property(11), 0);
        Check.same("43 no flag fell", clock.property(9), -1);
        Check.same("43 paused", paused().resign(0), 1);
        Check.same("43 adjourned", adjourned().resign(0), 1);
        clock = running();
        clock.setBare(1, true);
        Check.same("43 the other side is bare", clock.resign(0), 1);
        Check.refuses("43 over", ISE, ChangeTest::over, c -> c.resign(1));
        Check.refuses("43 over, side 2", IOOBE, ChangeTest::over, c -> c.resign(2));
        Check.refuses("43 side -1", IOOBE, ChangeTest::running, c -> c.resign(-1));
        Check.refuses("43 side 2", IOOBE, ChangeTest::running, c -> c.resign(2));
    }

    private static void promise44Give() {
        GameClock clock = notBegun();
        Check.same("44 given", clock.give(0, 9999), 10099);
        Check.same("44 taken", clock.give(0, -9999), 100);
        Check.same("44 nothing", clock.give(1, 0), 110);
        Check.same("44 up to 1", clock.give(1, -109), 1);
        Check.same("44 the other side", clock.side(0, 0), 100);
        clock = running();
        Check.same("44 running", clock.give(1, 7), 117);
        Check.same("44 lost stays", clock.side(1, 7), 0);
        Check.same("44 spent stays", clock.spent(1, 0), 0);
        clock = paused();
        Check.same("44 paused", clock.give(0, -2), 100);
        Check.same("44 adjourned", adjourned().give(0, 1), 103);
        clock = fallen(true, false);
        Check.same("44 a side with a flag", clock.give(1, 6), 7);
        clock = Check.begun(FIVE + "extra 1 time 4;");
        clock.tick(6);
        Check.same("44 in an extra period", clock.give(0, 10), 13);
        Check.same("44 that is taken back", clock.move(), -9);
    }

    private static void promise44GiveRefused() {
        Check.refuses("44 less than 1", ISE, ChangeTest::notBegun, c -> c.give(0, -100));
        Check.refuses("44 much less", ISE, ChangeTest::notBegun, c -> c.give(1, -9999));
        Check.refuses("44 its flag fell", ISE, () -> fallen(true, false), c -> c.give(0, 50));
        Check.refuses("44 over", ISE, ChangeTest::over, c -> c.give(0, 1));
        Check.refuses("44 ticks 10000", IAE, ChangeTest::running, c -> c.give(0, 10000));
        Check.refuses("44 ticks -10000", IAE, ChangeTest::running, c -> c.give(1, -10000));
        Check.refuses("44 ticks least", IAE, ChangeTest::running, c -> c.give(1, Integer.MIN_VALUE));
        Check.refuses("44 ticks most", IAE, ChangeTest::running, c -> c.give(1, Integer.MAX_VALUE));
        Check.refuses("44 ticks 10000, over", IAE, ChangeTest::over, c -> c.give(0, 10000));
        Check.refuses("44 side 2", IOOBE, ChangeTest::running, c -> c.give(2, 1));
        Check.refuses("44 side -1", IOOBE, ChangeTest::running, c -> c.give(-1, 1));
        Check.refuses("44 all wrong", IOOBE, ChangeTest::over, c -> c.give(2, 10000));
    }

    private static void promise45SetBare() {
        GameClock clock = notBegun();
        Check.same("45 before", clock.setBare(0, true), false);
        Check.same("45 bare", clock.side(0, 9), 1);
        Check.same("45 the other side", clock.side(1, 9), 0);
        Check.same("45 again", clock.setBare(0, true), true);
        Check.same("45 not any more", clock.setBare(0, false), true);
        Check.same("45 not bare", clock.side(0, 9), 0);
        Check.same("45 false again", clock.setBare(0, false), false);
        Check.same("45 black", clock.setBare(1, true), false);
        Check.same("45 black is bare", clock.side(1, 9), 1);
        Check.same("45 when over", over().setBare(0, true), false);
        Check.refuses("45 side -1", IOOBE, ChangeTest::running, c -> c.setBare(-1, true));
        Check.refuses("45 side 2", IOOBE, ChangeTest::running, c -> c.setBare(2, true));
    }

    private static void promise46SetClaims() {
        GameClock clock = running();
        Check.same("46 before", clock.setClaims(true), false);
        Check.same("46 claimed", clock.property(10), 1);
        Check.same("46 again", clock.setClaims(true), true);
        Check.same("46 not any more", clock.setClaims(false), true);
        Check.same("46 not claimed", clock.property(10), 0);
        Check.same("46 false again", clock.setClaims(false), false);
        clock = fallen(true, false);
        clock.setClaims(false);
        Check.same("46 a fallen flag does not end it", clock.property(0), 1);
        Check.same("46 no result", clock.property(11), -1);
        clock = over();
        clock.setClaims(true);
        Check.same("46 over stays over", clock.property(0), 4);
    }

    private static void promise47SetPeriod() {
        GameClock clock = running();
        Check.same("47 bonus", clock.setPeriod(0, 2, 999), 5);
        Check.same("47 delay", clock.setPeriod(0, 3, 1), 3);
        Check.same("47 back", clock.setPeriod(0, 4, 0), 4);
        Check.same("47 the other period", clock.setPeriod(1, 2, 0), 1);
        int[][] due = {{2, 100, 999, 1, 0}, {1, 40, 0, 0, 0}};
        for (int period = 0; period < 2; period++) {
            for (int what = 0; what < 5; what++) {
                Check.same("47 period " + period + " " + what, clock.period(period, what), due[period][what]);
            }
        }
        Check.same("47 the delay counts now", clock.tick(1), 109);
        clock.setPeriod(0, 3, 50);
        Check.same("47 and now", clock.tick(9), 109);
        clock.setPeriod(0, 4, 999);
        Check.same("47 bonus and back count now", clock.move(), 999 + 1);
        Check.same("47 when over", over().setPeriod(0, 2, 7), 5);
        Check.refuses("47 period 2", IOOBE, ChangeTest::running, c -> c.setPeriod(2, 2, 5));
        Check.refuses("47 period -1", IOOBE, ChangeTest::running, c -> c.setPeriod(-1, 2, 5));
        Check.refuses("47 all wrong", IOOBE, ChangeTest::running, c -> c.setPeriod(2, 1, -1));
        for (int what : new int[] {-1, 0, 1, 5, Integer.MIN_VALUE, Integer.MAX_VALUE}) {
            Check.refuses("47 what " + what, IAE, ChangeTest::running, c -> c.setPeriod(0, what, 5));
        }
        for (int value : new int[] {-1, 1000, Integer.MIN_VALUE, Integer.MAX_VALUE}) {
            Check.refuses("47 value " + value, IAE, ChangeTest::running, c -> c.setPeriod(1, 3, value));
        }
    }

    private static void promise48Swap() {
        GameClock clock = Check.begun("period moves 2 time 5 bonus 1; period moves 0 time 50; extra 2 time 9; claims;");
        clock.tick(8);
        clock.move();
        Check.moveAfter(clock, 3);
        clock.setBare(1, true);
        clock.tick(2);
        clock.pause();
        Check.same("48 swap", clock.swap(), 3 - 0);
        row("48 white has all of black", clock, 0, 3, 1, 0, 1, 2, 0, 0, 0, 0, 1, 3, 1);
        row("48 black has all of white", clock, 1, 0, 1, 0, 1, 2, 0, 2, 0, 1, 0, 10, 1);
        Check.same("48 spent", clock.spent(0, 0), 3);
        Check.same("48 spent", clock.spent(1, 0), 5);
        Check.same("48 the side to move", clock.property(1), 0);
        Check.same("48 the first flag", clock.property(9), 0);
        Check.same("48 the log", clock.logged(1, 0), 0);
        Check.same("48 the log", clock.logged(1, 1), 8);
        Check.same("48 of the log", clock.longest(0), 8);
        Check.same("48 the state", clock.property(0), 2);
        Check.same("48 back again", clock.swap(), 0 - 3);
        Check.same("48 as it was", clock.side(1, 9), 1);
        clock = notBegun();
        Check.same("48 not begun", clock.swap(), 10);
        Check.same("48 white has more", clock.side(0, 0), 110);
        Check.same("48 undone", clock.undo(), 1);
        Check.same("48 as it was", clock.side(0, 0), 100);
        clock = Check.begun("period moves 1 time 5; period moves 0 time 6;");
        clock.move();
        clock.pause();
        clock.swap();
        Check.same("48 finished", clock.finished(1), 1);
        Check.same("48 finished", clock.finished(0), 0);
        refusedIn("48 swap", c -> c.swap(), ChangeTest::running, ChangeTest::adjourned, ChangeTest::over);
    }

    private static void promise49And50Slots() {
        GameClock clock = running();
        Check.same("49 keep", clock.keep(0), 12);
        // load, start, tick, move and tick
        Check.same("49 is not undone", clock.undoCount(), 5);
        clock.tick(30);
        clock.setPeriod(0, 2, 77);
        Check.same("49 keep", clock.keep(1), 42);
        Check.load(clock, FIVE);
        Check.same("50 the slot 0", clock.restore(0), 12);
        row("50 white", clock, 0, 102, 1, 0, 1, 0, 0, 0, 0, 0, 0, 10, 1);
        row("50 black", clock, 1, 110, 0, 0, 0, 0, 0, 2, 0, 0, 0, 2, 2);
        Check.same("50 the state", clock.property(0), 1);
        Check.same("50 periods", clock.property(2), 2);
        Check.same("50 the bonus", clock.period(0, 2), 5);
        Check.same("50 the log", clock.logged(0, 1), 10);
        Check.same("50 the slot 1", clock.restore(1), 42);
        Check.same("50 the bonus", clock.period(0, 2), 77);
        clock.move();
        clock.setBare(0, true);
        Check.same("50 which keeps it", clock.restore(1), 42);
        Check.same("50 as it was", clock.property(8), 1);
        Check.same("50 nobody is bare", clock.side(0, 9), 0);
        clock.restore(0);
        Check.same("49 in place of what was there", clock.keep(1), 12);
        Check.same("50 that", clock.restore(1), 12);
        logsInSlots();
        Check.refuses("49 slot -1", IOOBE, ChangeTest::running, c -> c.keep(-1));
        Check.refuses("49 slot 2", IOOBE, ChangeTest::running, c -> c.keep(2));
        Check.refuses("50 slot -1", IOOBE, ChangeTest::running, c -> c.restore(-1));
        Check.refuses("50 slot 2", IOOBE, ChangeTest::running, c -> c.restore(2));
        Check.refuses("50 nothing kept", ISE, ChangeTest::running, c -> c.restore(0));
        timesInSlots();
        Supplier<GameClock> kept = () -> {
            GameClock made = running();
            made.keep(0);
            return made;
        };
        Check.refuses("50 nothing kept in the other", ISE, kept, c -> c.restore(1));
    }

    /** Behind an opened game the time and that of the session are not the same. */
    private static void timesInSlots() {
        GameClock clock = adjourned();
        clock.open();
        clock.tick(5);
        Check.same("49 the time", clock.keep(0), 67);
        clock.tick(9);
        Check.same("50 the time", clock.restore(0), 67);
        Check.same("50 the time", clock.property(7), 67);
        Check.same("50 the time of the session", clock.property(6), 5);
        clock.undo();
        Check.same("51 the time", clock.property(7), 76);
        Check.same("51 the time of the session", clock.property(6), 14);
        clock.undo();
        clock.undo();
        clock.undo();
        Check.same("51 the time of the session ahead of open()", clock.property(6), 62);
    }

    private static void logsInSlots() {
        GameClock clock = Check.begun("period moves 1 time 50 bonus 1; period moves 2 time 40;");
        for (int i = 1; i <= 4; i++) {
            Check.moveAfter(clock, i);
        }
        clock.keep(0);
        clock.undo();
        clock.undo();
        Check.moveAfter(clock, 9);
        Check.moveAfter(clock, 9);
        Check.same("50 the time", clock.restore(0), 10);
        for (int index = 0; index < 4; index++) {
            Check.same("50 the log's think " + index, clock.logged(index, 1), 4 - index);
            Check.same("50 the log's side " + index, clock.logged(index, 0), 1 - index % 2);
        }
        Check.same("50 finished", clock.finished(0), 1);
        Check.load(clock, FIVE);
        clock.start();
        clock.move();
        clock.restore(0);
        Check.same("50 finished", clock.finished(0) + clock.finished(1), 2);
        Check.same("50 spent", clock.spent(1, 0), 2);
        Check.same("50 spent", clock.spent(1, 1), 4);
        Check.same("50 the log again", clock.logged(3, 1), 1);
    }

    private static void promise50RestoreIsUndone() {
        GameClock clock = Check.begun(TEXT);
        clock.keep(0);
        clock.tick(10);
        clock.keep(1);
        clock.move();
        Check.same("50 undoCount", clock.undoCount(), 4);
        clock.restore(0);
        Check.same("50 one more to undo", clock.undoCount(), 5);
        Check.same("50 undone", clock.undo(), 4);
        Check.same("50 the move is there", clock.property(8), 1);
        clock.undo();
        Check.same("50 what came ahead of it is undone", clock.property(8), 0);
        Check.same("49 undo leaves the slots", clock.restore(1), 10);
        clock.undo();
        clock.undo();
        clock.undo();
        Check.same("49 undo leaves the slots", clock.restore(1), 10);
    }

    private static void promise51Undo() {
        GameClock clock = new GameClock();
        clock.start();
        for (int i = 1; i <= 8; i++) {
            clock.tick(i);
        }
        Check.same("51 the time", clock.property(7), 36);
        int time = 36;
        for (int i = 8; i >= 3; i--) {
            time -= i;
            Check.same("51 undo", clock.undo(), i - 3);
            Check.same("51 the time", clock.property(7), time);
        }
        try {
            clock.undo();
            Check.tell("51 a 7th undo threw nothing");
        } catch (RuntimeException e) {
            Check.same("51 a 7th undo", e.getClass().getName(), ISE.getName());
        }
        Check.same("51 behind the refused one", clock.property(7), 3);
        clock.tick(50);
        Check.same("51 anew", clock.undoCount(), 1);
        Check.same("51 anew", clock.undo(), 0);
        Check.same("51 the time", clock.property(7), 3);
        Check.refuses("51 nothing to undo", ISE, GameClock::new, c -> c.undo());
    }

    private static void promise51UndoRestoresEverything() {
        GameClock clock = running();
        GameClock twin = running();
        clock.setClaims(true);
        clock.tick(500);
        clock.setBare(0, true);
        clock.claim(0);
        Check.load(clock, FIVE + "extra 1 time 7; session 5; hand white 9;");
        for (int i = 0; i < 5; i++) {
            clock.undo();
        }
        for (int what = 0; what < 12; what++) {
            Check.same("51 property " + what, clock.property(what), twin.property(what));
            Check.same("51 white " + what, clock.side(0, what), twin.side(0, what));
            Check.same("51 black " + what, clock.side(1, what), twin.side(1, what));
        }
        for (int what = 0; what < 6; what++) {
            Check.same("51 logged " + what, clock.logged(0, what), twin.logged(0, what));
        }
        Check.same("51 spent", clock.spent(1, 0), twin.spent(1, 0));
        Check.same("51 periods", clock.period(1, 1), 40);
        clock = running();
        int length = clock.writeLog();
        Check.feed(clock, FIVE);
        clock.undo();
        Check.same("51 the output buffer stays", Check.output(clock, length), "w10+9");
        Check.same("51 the input buffer stays", clock.append(0, 0, 0, 0, 0), FIVE.length() + 20);
        clock.truncate(FIVE.length());
        Check.same("51 it can be loaded", clock.load(), 1);
    }

    private static void promise52UndoCount() {
        GameClock clock = new GameClock();
        Check.same("52 at first", clock.undoCount(), 0);
        clock.start();
        for (int i = 2; i < 10; i++) {
            clock.move();
            Check.same("52 behind " + i, clock.undoCount(), Math.min(6, i));
        }
        clock.undo();
        Check.same("52 behind undo", clock.undoCount(), 5);
        clock.writeClock();
        clock.keep(0);
        clock.append(0, 0, 0, 0, 0);
        clock.load();
        clock.property(0);
        Check.same("52 these are not undone", clock.undoCount(), 5);
    }

    private static void eachChangeIsUndone() {
        undone("load", ChangeTest::running, c -> Check.load(c, FIVE));
        undone("start", ChangeTest::notBegun, c -> c.start());
        undone("tick", ChangeTest::running, c -> c.tick(9));
        undone("tick that changes nothing", ChangeTest::over, c -> c.tick(9));
        undone("tick that ends the game", ChangeTest::running, c -> c.tick(999));
        undone("move", ChangeTest::running, c -> c.move());
        undone("move that ends a period", ChangeTest::secondMove, c -> c.move());
        undone("pause", ChangeTest::running, c -> c.pause());
        undone("proceed", ChangeTest::paused, c -> c.proceed());
        undone("proceed at once", ChangeTest::pausedAtOnce, c -> c.proceed());
        undone("seal", ChangeTest::nearlySealedAndOne, c -> c.seal());
        undone("open", ChangeTest::adjourned, c -> c.open());
        undone("open at once", ChangeTest::adjournedAtOnce, c -> c.open());
        undone("claim", () -> fallen(true, false), c -> c.claim(1));
        undone("resign", ChangeTest::running, c -> c.resign(0));
        undone("give", ChangeTest::running, c -> c.give(0, 9));
        undone("give of nothing", ChangeTest::running, c -> c.give(0, 0));
        undone("setBare", ChangeTest::running, c -> c.setBare(0, true));
        undone("setBare as it is", ChangeTest::running, c -> c.setBare(0, false));
        undone("setClaims", ChangeTest::running, c -> c.setClaims(true));
        undone("setClaims as it is", ChangeTest::running, c -> c.setClaims(false));
        undone("setPeriod", ChangeTest::running, c -> c.setPeriod(1, 4, 9));
        undone("setPeriod as it is", ChangeTest::running, c -> c.setPeriod(0, 2, 5));
        undone("swap", ChangeTest::paused, c -> c.swap());
        undone("swap at once", ChangeTest::pausedAtOnce, c -> c.swap());
        undone("restore", () -> {
            GameClock clock = running();
            clock.keep(1);
            clock.move();
            return clock;
        }, c -> c.restore(1));
    }

    private static GameClock nearlySealedAndOne() {
        GameClock clock = Check.begun(TEXT);
        clock.tick(30);
        return clock;
    }

    private static GameClock pausedAtOnce() {
        GameClock clock = Check.begun(TEXT);
        clock.pause();
        return clock;
    }

    private static GameClock adjournedAtOnce() {
        GameClock clock = nearlySealedAndOne();
        clock.seal();
        return clock;
    }

    private static GameClock secondMove() {
        GameClock clock = Check.begun(TEXT);
        clock.move();
        clock.move();
        clock.tick(9);
        return clock;
    }

    private static void undone(String what, Supplier<GameClock> maker, Consumer<GameClock> change) {
        GameClock clock = maker.get();
        int count = clock.undoCount();
        change.accept(clock);
        Check.same("52 behind " + what, clock.undoCount(), Math.min(6, count + 1));
        Check.same("51 undo of " + what, clock.undo(), Math.min(5, count));
        if (count < 6) {
            Check.same("51 all behind undo of " + what, Check.allBehind(maker, c -> {
                change.accept(c);
                c.undo();
            }), Check.allBehind(maker, c -> { }));
        }
    }
}
