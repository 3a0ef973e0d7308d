import java.util.NoSuchElementException;
import java.util.function.Consumer;
import java.util.function.Supplier;

/**
 * Empty, full and wrapped around: the log of 40 moves, the 6 calls that undo() can bring back, the slots, the output
 * and the last period that begins anew; the sentence of the document stands above each test.
 */
public final class FullTest {
    private static final Class<?> IOOBE = IndexOutOfBoundsException.class;
    private static final Class<?> ISE = IllegalStateException.class;
    private static final Class<?> NSEE = NoSuchElementException.class;
    private static final String LONG = "period moves 0 time 90000 bonus 3;";

    private FullTest() {
    }

    public static void main(String[] args) {
        logOfTheLast40Moves();
        logBehindIts40thMove();
        logIsEmptyBehindLoad();
        logIsShortBehindUndoAndRestore();
        questionsToAnEmptyLog();
        questionsToAFullLog();
        questionsToALogOfOneSide();
        slowestIsTheLatestOfSeveral();
        nothingToUndo();
        theLast6AreKept();
        undoBehindThe6thCall();
        undoAndNewCallsInTurns();
        eachCallThatCanBeUndone();
        callsThatCannotBeUndone();
        undoRestoresAllButBuffersErrorAndSlots();
        emptySlots();
        keepInPlaceOfWhatWasThere();
        slotsKeepAllButWhatCanBeUndone();
        emptyOutput();
        outputIsReplaced();
        writtenLogOf12Moves();
        longestOutputs();
        theLastPeriodAnew();
        theLastPeriodOfSeveralAnew();
        finishedAndSpentOfAllRounds();
        Check.end("FullTest");
    }

    /** Move k, from 1, takes k ticks of its side. */
    private static GameClock moved(String text, int moves) {
        GameClock clock = Check.begun(text);
        for (int k = 1; k <= moves; k++) {
            Check.moveAfter(clock, k);
        }
        return clock;
    }

    // index: 0 for the last move, 1 for the one ahead of it, and so on; of the last 40
    private static void logOfTheLast40Moves() {
        for (int moves : new int[] {0, 1, 2, 39, 40, 41, 42, 79, 80, 81, 120, 121}) {
            GameClock clock = moved(LONG, moves);
            int count = Math.min(moves, 40);
            for (int index = 0; index < count; index++) {
                int k = moves - index;
                Check.same("10 side of " + k + " of " + moves, clock.logged(index, 0), 1 - k % 2);
                Check.same("10 think of " + k + " of " + moves, clock.logged(index, 1), k);
                Check.same("10 time of " + k + " of " + moves, clock.logged(index, 5), k * (k + 1) / 2);
            }
            Check.raises("10 behind " + count, IOOBE, () -> clock.logged(count, 0));
            Check.raises("10 behind 40", IOOBE, () -> clock.logged(40, 0));
            Check.same("7 moves of both sides", clock.property(8), moves);
        }
    }

    private static void logBehindIts40thMove() {
        GameClock clock = moved(LONG, 40);
        Check.same("10 the 40th last is the first", clock.logged(39, 1), 1);
        Check.moveAfter(clock, 500);
        Check.same("10 the 41st comes", clock.logged(0, 1), 500);
        Check.same("10 the first goes", clock.logged(39, 1), 2);
        int[] due = {0, 500, 500, 3, 90000 - 400 - 500 + 21 * 3, 820 + 500};
        for (int what = 0; what < due.length; what++) {
            Check.same("10 the 41st move's " + what, clock.logged(0, what), due[what]);
        }
        int[] last = {1, 2, 2, 3, 90001, 3};
        for (int what = 0; what < last.length; what++) {
            Check.same("10 the 2nd move's " + what, clock.logged(39, what), last[what]);
        }
    }

    // On success .. the log is empty.
    private static void logIsEmptyBehindLoad() {
        for (int moves : new int[] {1, 40, 45}) {
            GameClock clock = moved(LONG, moves);
            Check.load(clock, LONG);
            Check.raises("10 the log is empty", IOOBE, () -> clock.logged(0, 0));
            asksAnEmptyLog(clock);
            clock.start();
            Check.moveAfter(clock, 7);
            Check.same("10 the first move anew", clock.logged(0, 1), 7);
            Check.raises("10 and no other", IOOBE, () -> clock.logged(1, 0));
            Check.same("17 of it alone", clock.longest(0), 7);
            Check.same("17 none of black", clock.longest(1), 0);
            Check.same("18 of it alone", clock.meanThink(0), 7.0);
            Check.same("27 of it alone", clock.gained(0), 3);
            Check.same("27 none of black", clock.gained(1), 0);
            Check.same("30 of it alone", clock.slowest(), 0);
            Check.same("31 of it alone", clock.within(0, 9999), 1);
            Check.same("31 none of black", clock.within(1, 9999), 0);
            Check.same("54 it alone", Check.output(clock, clock.writeLog()), "w7+3");
        }
    }

    private static void logIsShortBehindUndoAndRestore() {
        GameClock clock = moved(LONG, 41);
        Check.same("51 the 41st move is undone", clock.undo() >= 0, true);
        Check.same("51 its ticks are, too", clock.undo() >= 0, true);
        Check.same("10 the 40th last is the first again", clock.logged(39, 1), 1);
        Check.same("10 the last is the 40th", clock.logged(0, 1), 40);
        clock.keep(0);
        clock.undo();
        Check.raises("10 39 moves", IOOBE, () -> clock.logged(39, 0));
        Check.same("10 the 39th last is the first", clock.logged(38, 1), 1);
        clock.restore(0);
        Check.same("10 40 moves again", clock.logged(39, 1), 1);
        GameClock shortOne = moved(LONG, 1);
        shortOne.keep(1);
        for (int k = 2; k < 60; k++) {
            Check.moveAfter(shortOne, k);
        }
        shortOne.restore(1);
        Check.same("10 one move again", shortOne.logged(0, 1), 1);
        Check.raises("10 and no other", IOOBE, () -> shortOne.logged(1, 0));
        Check.same("17 of it alone", shortOne.longest(0) + shortOne.longest(1), 1);
        Check.same("30 of it alone", shortOne.slowest(), 0);
        Check.same("54 it alone", Check.output(shortOne, shortOne.writeLog()), "w1+3");
    }

    // 0 without any (17); 0.0 without any (18); NONE if the log is empty (30)
    private static void questionsToAnEmptyLog() {
        asksAnEmptyLog(new GameClock());
        asksAnEmptyLog(Check.begun(LONG));
        GameClock clock = Check.begun(LONG);
        clock.tick(50);
        asksAnEmptyLog(clock);
        clock.move();
        clock.undo();
        asksAnEmptyLog(clock);
    }

    private static void asksAnEmptyLog(GameClock clock) {
        for (int side = 0; side < 2; side++) {
            Check.same("17 longest", clock.longest(side), 0);
            Check.same("18 meanThink", clock.meanThink(side), 0.0);
            Check.same("27 gained", clock.gained(side), 0);
            Check.same("31 within", clock.within(side, 9999), 0);
        }
        Check.same("30 slowest", clock.slowest(), GameClock.NONE);
        Check.same("54 writeLog", clock.writeLog(), 0);
        Check.raises("56 no byte", NSEE, () -> clock.outputByte(0));
    }

    private static void questionsToAFullLog() {
        // behind 41 moves: 2 to 41, black has the even ones
        GameClock clock = moved(LONG, 41);
        Check.same("17 white", clock.longest(0), 41);
        Check.same("17 black", clock.longest(1), 40);
        Check.same("18 white, 3 to 41", clock.meanThink(0), 22.0);
        Check.same("18 black, 2 to 40", clock.meanThink(1), 21.0);
        Check.same("27 white", clock.gained(0), 20 * 3);
        Check.same("27 black", clock.gained(1), 20 * 3);
        Check.same("30 the last", clock.slowest(), 0);
        Check.same("31 white, up to 3", clock.within(0, 3), 1);
        Check.same("31 white, up to 2", clock.within(0, 2), 0);
        Check.same("31 white, up to 41", clock.within(0, 41), 20);
        Check.same("31 white, up to 40", clock.within(0, 40), 19);
        Check.same("31 black, up to 1", clock.within(1, 1), 0);
        Check.same("31 black, up to 2", clock.within(1, 2), 1);
        // behind 40 moves: 1 to 40
        clock = moved(LONG, 40);
        Check.same("18 white, 1 to 39", clock.meanThink(0), 20.0);
        Check.same("18 black, 2 to 40", clock.meanThink(1), 21.0);
        Check.same("31 white, up to 0", clock.within(0, 0), 0);
        Check.same("31 white, up to 1", clock.within(0, 1), 1);
        // the slowest of all goes out of the log at last
        clock = Check.begun(LONG);
        Check.moveAfter(clock, 900);
        for (int k = 0; k < 39; k++) {
            Check.same("30 the slowest", clock.slowest(), k);
            Check.moveAfter(clock, 3);
        }
        Check.same("30 the 40th last", clock.slowest(), 39);
        Check.same("17 the 40th last", clock.longest(0), 900);
        Check.moveAfter(clock, 2);
        Check.same("30 the latest of those with 3", clock.slowest(), 1);
        Check.same("17 of those with 3", clock.longest(0), 3);
    }

    /** The log tells of one side alone where the other one did not move yet; behind swap() it tells the same sides. */
    private static void questionsToALogOfOneSide() {
        GameClock clock = moved(LONG, 1);
        Check.same("17 black", clock.longest(1), 0);
        Check.same("18 black", clock.meanThink(1), 0.0);
        Check.same("18 white", clock.meanThink(0), 1.0);
        Check.same("31 black", clock.within(1, 9999), 0);
        clock.pause();
        clock.swap();
        Check.same("48 the log stays", clock.longest(0), 1);
        Check.same("48 the log stays", clock.within(1, 9999), 0);
        Check.same("48 the moves are swapped", clock.side(1, 1), 1);
    }

    // the move of the log with the greatest think, the latest one of several
    private static void slowestIsTheLatestOfSeveral() {
        int[][] thinks = {{5, 5}, {5, 5, 4}, {5, 4, 5}, {4, 5, 5, 4}, {0, 0, 0}, {6, 5, 5}, {1, 2, 3}, {3, 2, 1}};
        int[] due = {0, 1, 0, 1, 0, 2, 0, 2};
        for (int i = 0; i < thinks.length; i++) {
            GameClock clock = Check.begun(LONG);
            for (int think : thinks[i]) {
                Check.moveAfter(clock, think);
            }
            Check.same("30 of row " + i, clock.slowest(), due[i]);
        }
        GameClock clock = Check.begun(LONG);
        for (int i = 0; i < 50; i++) {
            Check.moveAfter(clock, 5);
        }
        Check.same("30 the latest of 40", clock.slowest(), 0);
        // by the think, though nothing was lost
        clock = Check.begun("period moves 0 time 90000 delay 9;");
        for (int think : new int[] {7, 8, 3, 5}) {
            Check.moveAfter(clock, think);
        }
        Check.same("30 in the delay", clock.slowest(), 2);
        Check.same("17 in the delay", clock.longest(0), 7);
        Check.same("18 in the delay", clock.meanThink(1), 6.5);
        Check.same("31 in the delay", clock.within(1, 5), 1);
    }

    // Throws IllegalStateException if there is nothing to undo
    private static void nothingToUndo() {
        Check.same("52 at first", new GameClock().undoCount(), 0);
        Check.refuses("51 at first", ISE, GameClock::new, c -> c.undo());
        GameClock clock = new GameClock();
        clock.start();
        Check.same("51 the only one", clock.undo(), 0);
        Check.raises("51 and no other", ISE, () -> clock.undo());
        Check.same("52 none", clock.undoCount(), 0);
        Check.same("51 still not begun", clock.property(0), 0);
    }

    private static GameClock given(int calls) {
        GameClock clock = new GameClock();
        for (int i = 1; i <= calls; i++) {
            clock.give(0, i);
        }
        return clock;
    }

    // the last 6 are kept
    private static void theLast6AreKept() {
        for (int calls : new int[] {0, 1, 5, 6, 7, 8, 11, 12, 13, 50}) {
            GameClock clock = given(calls);
            int count = Math.min(6, calls);
            Check.same("52 behind " + calls, clock.undoCount(), count);
            int left = 3000 + calls * (calls + 1) / 2;
            for (int i = 0; i < count; i++) {
                Check.same("51 what is left", clock.side(0, 0), left);
                Check.same("51 undo", clock.undo(), count - 1 - i);
                left -= calls - i;
            }
            Check.same("51 what is left at last", clock.side(0, 0), left);
            Check.raises("51 no more of " + calls, ISE, () -> clock.undo());
            Check.same("51 a refused one changes nothing", clock.side(0, 0), left);
            Check.same("52 none", clock.undoCount(), 0);
        }
    }

    /** The 7th call pushes the first one out, and each further one the next. */
    private static void undoBehindThe6thCall() {
        GameClock clock = given(6);
        Check.same("52 six", clock.undoCount(), 6);
        clock.give(0, 7);
        Check.same("52 still six", clock.undoCount(), 6);
        for (int i = 5; i >= 0; i--) {
            Check.same("51 undo", clock.undo(), i);
        }
        Check.same("51 the first call stays", clock.side(0, 0), 3001);
        for (int i = 0; i < 6; i++) {
            clock.give(0, 10);
        }
        Check.same("52 six anew", clock.undoCount(), 6);
        Check.same("51 undo", clock.undo(), 5);
        Check.same("51 one less", clock.side(0, 0), 3051);
    }

    private static void undoAndNewCallsInTurns() {
        GameClock clock = given(9);
        clock.undo();
        clock.undo();
        Check.same("51 seven calls stand", clock.side(0, 0), 3028);
        clock.give(0, 100);
        Check.same("52 four and one", clock.undoCount(), 5);
        clock.give(0, 200);
        clock.give(0, 300);
        Check.same("52 six", clock.undoCount(), 6);
        int[] due = {3328, 3128, 3028, 3021, 3015, 3010};
        for (int i = 0; i < 6; i++) {
            clock.undo();
            Check.same("51 back " + i, clock.side(0, 0), due[i]);
        }
        Check.raises("51 no more", ISE, () -> clock.undo());
    }

    private static void oneMore(String what, Supplier<GameClock> maker, Consumer<GameClock> call) {
        GameClock clock = maker.get();
        int count = clock.undoCount();
        call.accept(clock);
        Check.same("52 behind " + what, clock.undoCount(), Math.min(6, count + 1));
        String due = Check.allBehind(maker, c -> { });
        String all = Check.allBehind(maker, c -> {
            call.accept(c);
            c.undo();
        });
        // with six calls to undo the oldest one is lost
        if (count < 6) {
            Check.same("51 all behind undo of " + what, all, due);
        }
    }

    private static GameClock begun() {
        return Check.begun("period moves 2 time 50 bonus 2 back 1;period moves 1 time 30;session 5;claims;");
    }

    private static GameClock paused() {
        GameClock clock = begun();
        clock.pause();
        return clock;
    }

    private static GameClock thinking() {
        GameClock clock = begun();
        clock.tick(7);
        return clock;
    }

    private static GameClock sealed() {
        GameClock clock = thinking();
        clock.seal();
        return clock;
    }

    private static GameClock fallen() {
        GameClock clock = begun();
        clock.tick(60);
        return clock;
    }

    private static GameClock kept() {
        GameClock clock = begun();
        clock.keep(1);
        clock.tick(3);
        return clock;
    }

    private static GameClock over() {
        GameClock clock = begun();
        clock.resign(0);
        return clock;
    }

    // Each successful load(), and each call of start(), tick(), .. that does not throw (also if nothing changes) can be
    // undone
    private static void eachCallThatCanBeUndone() {
        oneMore("start", GameClock::new, c -> c.start());
        oneMore("tick", FullTest::thinking, c -> c.tick(1));
        oneMore("tick of many", FullTest::thinking, c -> c.tick(9999));
        oneMore("tick, not begun", GameClock::new, c -> c.tick(1));
        oneMore("tick, paused", FullTest::paused, c -> c.tick(1));
        oneMore("tick, adjourned", FullTest::sealed, c -> c.tick(1));
        oneMore("tick, over", FullTest::over, c -> c.tick(1));
        oneMore("move", FullTest::thinking, c -> c.move());
        oneMore("move, fallen", FullTest::fallen, c -> c.move());
        oneMore("pause", FullTest::thinking, c -> c.pause());
        oneMore("proceed", FullTest::paused, c -> c.proceed());
        oneMore("seal", FullTest::thinking, c -> c.seal());
        oneMore("open", FullTest::sealed, c -> c.open());
        oneMore("claim", FullTest::fallen, c -> c.claim(1));
        oneMore("resign", GameClock::new, c -> c.resign(1));
        oneMore("give", FullTest::thinking, c -> c.give(1, 5));
        oneMore("give of nothing", FullTest::thinking, c -> c.give(1, 0));
        oneMore("setBare", FullTest::thinking, c -> c.setBare(1, true));
        oneMore("setBare as it is", FullTest::thinking, c -> c.setBare(1, false));
        oneMore("setClaims", FullTest::thinking, c -> c.setClaims(false));
        oneMore("setClaims as it is", FullTest::thinking, c -> c.setClaims(true));
        oneMore("setPeriod", FullTest::thinking, c -> c.setPeriod(1, 3, 5));
        oneMore("setPeriod as it is", FullTest::thinking, c -> c.setPeriod(1, 3, 0));
        oneMore("swap", FullTest::paused, c -> c.swap());
        oneMore("swap of the same", GameClock::new, c -> c.swap());
        oneMore("restore", FullTest::kept, c -> c.restore(1));
        oneMore("restore of the same", () -> {
            GameClock clock = kept();
            clock.keep(1);
            return clock;
        }, c -> c.restore(1));
        GameClock clock = thinking();
        Check.load(clock, LONG);
        Check.same("52 behind load", clock.undoCount(), 4);
        Check.load(clock, LONG);
        Check.same("52 behind load of the same", clock.undoCount(), 5);
        clock.undo();
        clock.undo();
        Check.same("51 behind undo of load", clock.property(6), 7);
        Check.same("51 behind undo of load", clock.side(0, 6), 7);
    }

    /** What asks, writes, keeps or fails is no call that can be undone. */
    private static void callsThatCannotBeUndone() {
        GameClock clock = fallen();
        int count = clock.undoCount();
        clock.append(0, 0, 0, 0, 0);
        clock.truncate(3);
        clock.load();
        clock.keep(0);
        clock.keep(1);
        clock.writeClock();
        clock.writeLog();
        clock.writePeriods();
        clock.outputByte(0);
        clock.ends(1, 1);
        clock.needs(1, 1, 1);
        clock.leftIn(1, 9);
        Check.raises("36 refused", IllegalArgumentException.class, () -> clock.tick(0));
        Check.raises("39 refused", ISE, () -> clock.proceed());
        Check.raises("44 refused", ISE, () -> clock.give(0, 1));
        Check.raises("42 refused", ISE, () -> clock.claim(0));
        Check.raises("47 refused", IllegalArgumentException.class, () -> clock.setPeriod(0, 2, 1000));
        Check.same("52 no more to undo", clock.undoCount(), count);
        Check.same("51 the ticks are undone", clock.undo(), count - 1);
        Check.same("51 the ticks are undone", clock.side(0, 0), 50);
    }

    // undo() restores everything except the two buffers, the parse error and the two slots.
    private static void undoRestoresAllButBuffersErrorAndSlots() {
        GameClock clock = thinking();
        clock.keep(0);
        clock.resign(0);
        clock.keep(1);
        Check.load(clock, "period moves 0 time 0;");
        Check.feed(clock, LONG);
        clock.writePeriods();
        for (int left = 3; left >= 0; left--) {
            Check.same("51 undo", clock.undo(), left);
        }
        Check.same("51 all is undone", clock.period(0, 1), 3000);
        Check.same("51 the output stays", Check.output(clock, 13), "2/50+2b1 1/30");
        Check.raises("51 the output stays", NSEE, () -> clock.outputByte(13));
        Check.same("51 the code of the error stays", clock.errorCode(), 2);
        Check.same("51 its position stays", clock.errorPosition(), 20);
        Check.same("51 the input stays", clock.load(), 1);
        Check.same("51 what was in it", clock.period(0, 1), 90000);
        Check.same("51 the slots stay", clock.restore(0), 7);
        Check.same("51 what was kept", clock.property(0), 1);
        Check.same("51 the slots stay", clock.restore(1), 7);
        Check.same("51 what was kept", clock.property(0), 4);
    }

    private static void emptySlots() {
        for (int slot = 0; slot < 2; slot++) {
            int one = slot;
            Check.refuses("50 nothing kept", ISE, GameClock::new, c -> c.restore(one));
            Check.refuses("50 nothing kept", ISE, FullTest::thinking, c -> c.restore(one));
            Check.refuses("50 kept in the other alone", ISE, () -> {
                GameClock clock = thinking();
                clock.keep(1 - one);
                return clock;
            }, c -> c.restore(one));
            GameClock clock = thinking();
            Check.same("49 the time", clock.keep(slot), 7);
            clock.undo();
            clock.undo();
            clock.undo();
            Check.same("50 kept, though all is undone", clock.restore(slot), 7);
            Check.same("50 the periods", clock.property(2), 2);
        }
    }

    // Keeps everything .. in a slot, in place of what was there. Makes everything as it was kept in a slot, which
    // keeps it.
    private static void keepInPlaceOfWhatWasThere() {
        GameClock clock = thinking();
        clock.keep(0);
        clock.keep(1);
        clock.tick(1);
        clock.keep(0);
        clock.tick(1);
        Check.same("50 what came later", clock.restore(0), 8);
        Check.same("50 the other slot", clock.restore(1), 7);
        Check.same("50 again", clock.restore(1), 7);
        Check.same("50 again", clock.restore(0), 8);
        clock.tick(5);
        clock.setBare(0, true);
        Check.same("50 untouched by what follows", clock.restore(0), 8);
        Check.same("50 nobody is bare", clock.side(0, 9), 0);
    }

    // Keeps everything that undo() restores, but what can be undone
    private static void slotsKeepAllButWhatCanBeUndone() {
        GameClock clock = new GameClock();
        clock.keep(0);
        clock.start();
        clock.tick(4);
        Check.same("50 the time", clock.restore(0), 0);
        Check.same("52 start, tick and restore", clock.undoCount(), 3);
        Check.same("51 undo of restore", clock.undo(), 2);
        Check.same("51 the time again", clock.property(7), 4);
        clock.keep(1);
        Check.same("51 undo of tick", clock.undo(), 1);
        Check.same("51 undo of start", clock.undo(), 0);
        clock.restore(1);
        Check.same("52 the kept one brings nothing to undo", clock.undoCount(), 1);
        Check.same("51 undo of restore", clock.undo(), 0);
        Check.same("51 the time ahead of it", clock.property(7), 0);
        String due = Check.allBehind(FullTest::again, c -> { });
        String all = Check.allBehind(FullTest::again, c -> {
            c.keep(0);
            Check.load(c, LONG);
            c.start();
            c.tick(9);
            c.restore(0);
        });
        Check.same("50 all of the game", game(all), game(due));
    }

    private static GameClock again() {
        GameClock clock = moved("period moves 3 time 40 bonus 2;period moves 2 time 30;claims;", 9);
        clock.setPeriod(1, 2, 77);
        clock.setBare(1, true);
        return clock;
    }

    /** The first part of allBehind(), the game as it is. */
    private static String game(String all) {
        return all.substring(0, all.indexOf("behind 1 undo()"));
    }

    // Throws NoSuchElementException if there is no such byte
    private static void emptyOutput() {
        GameClock clock = new GameClock();
        Check.raises("56 nothing is written", NSEE, () -> clock.outputByte(0));
        Check.raises("56 nothing is written", NSEE, () -> clock.outputByte(-1));
        clock.writeClock();
        Check.same("56 a byte", clock.outputByte(0), '0');
        Check.same("54 an empty log", clock.writeLog(), 0);
        Check.raises("56 an empty output", NSEE, () -> clock.outputByte(0));
        Check.raises("56 an empty output", NSEE, () -> clock.outputByte(1));
    }

    // Writes .. to the output buffer, replacing its content. Returns the length of the output.
    private static void outputIsReplaced() {
        GameClock clock = moved(LONG, 13);
        for (int i = 0; i < 3; i++) {
            writes("53", clock, clock.writeClock(), "2:29:58 2:29:58*");
            writes("54", clock, clock.writeLog(),
                    "b2+3 w3+3 b4+3 w5+3 b6+3 w7+3 b8+3 w9+3 b10+3 w11+3 b12+3 w13+3");
            writes("55", clock, clock.writePeriods(), "r/90000+3");
        }
    }

    private static void writes(String what, GameClock clock, int length, String due) {
        Check.same(what + " length", length, due.length());
        Check.same(what + " bytes", Check.output(clock, due.length()), due);
        Check.raises(what + " behind the last byte", NSEE, () -> clock.outputByte(due.length()));
        Check.raises(what + " ahead of the first byte", NSEE, () -> clock.outputByte(-1));
    }

    // at most the last 12 moves, the earliest first; .. gains if these are not 0
    private static void writtenLogOf12Moves() {
        for (int moves : new int[] {0, 1, 11, 12, 13, 40, 41, 52}) {
            GameClock clock = moved("period moves 0 time 90000;", moves);
            StringBuilder due = new StringBuilder();
            for (int k = Math.max(1, moves - 11); k <= moves; k++) {
                due.append(due.length() > 0 ? " " : "").append(k % 2 == 1 ? 'w' : 'b').append(k);
            }
            writes("54 of " + moves, clock, clock.writeLog(), due.toString());
        }
        GameClock clock = Check.begun("period moves 0 time 5 back 1;");
        clock.move();
        Check.moveAfter(clock, 1);
        Check.moveAfter(clock, 2);
        writes("54 gains of 0, 1 and 1", clock, clock.writeLog(), "w0 b1+1 w2+1");
    }

    /** As much as can be: 12 moves of many digits, 9 extra periods, 5 periods with each number at its most. */
    private static void longestOutputs() {
        GameClock clock = Check.begun("period moves 0 time 1; extra 9 time 9999;");
        StringBuilder due = new StringBuilder();
        for (int i = 0; i < 12; i++) {
            clock.tick(1);
            for (int k = 0; k < 2; k++) {
                clock.give(i % 2, 9999);
                clock.tick(9998);
            }
            for (int k = 0; k < 11; k++) {
                clock.give(i % 2, 9999);
            }
            int left = clock.side(i % 2, 0);
            Check.same("37 gains", clock.move(), 9999 - left);
            due.append(i > 0 ? " " : "").append(i % 2 == 0 ? 'w' : 'b').append(19997).append('+').append(9999 - left);
        }
        Check.same("54 gains below 0", due.indexOf("+-1"), 6);
        writes("54 long", clock, clock.writeLog(), due.toString());
        clock = Check.begun("period moves 0 time 99999;extra 9 time 9999;");
        writes("53 nine extra periods", clock, clock.writeClock(), "2:46:40+++++++++* 2:46:40+++++++++");
        String one = "60/99999+999d999b999";
        String text = "period moves 60 time 99999 bonus 999 delay 999 back 999;";
        clock = Check.loaded(text.repeat(5));
        writes("55 five", clock, clock.writePeriods(), String.join(" ", one, one, one, one, one));
        clock = Check.loaded("period moves 1 time 1 bonus 1 delay 1 back 1;period moves 0 time 1;");
        writes("55 least", clock, clock.writePeriods(), "1/1+1d1b1 r/1");
        clock.setPeriod(0, 2, 0);
        clock.setPeriod(0, 3, 0);
        clock.setPeriod(0, 4, 0);
        writes("55 each if it is not 0", clock, clock.writePeriods(), "1/1 r/1");
    }

    // the next period begins for it (the last one anew, if it is the last one)
    private static void theLastPeriodAnew() {
        GameClock clock = Check.begun("period moves 2 time 50 bonus 1;");
        int[] inPeriod = {0, 1, 0, 1, 0, 1, 0};
        int[] left = {50, 51, 102, 103, 154, 155, 206};
        for (int moves = 0; moves < 7; moves++) {
            Check.same("9 the period", clock.side(0, 2), 0);
            Check.same("9 moves in it behind " + moves, clock.side(0, 3), inPeriod[moves]);
            Check.same("9 moves in all", clock.side(0, 1), moves);
            Check.same("9 moves to its end", clock.side(0, 11), 2 - inPeriod[moves]);
            Check.same("9 left behind " + moves, clock.side(0, 0), left[moves]);
            Check.same("28 finished behind " + moves, clock.finished(0), moves / 2);
            Check.same("37 gains", clock.move(), 1);
            clock.move();
        }
    }

    private static void theLastPeriodOfSeveralAnew() {
        GameClock clock = Check.begun("period moves 1 time 10;period moves 2 time 20;period moves 3 time 30;");
        int[] period = {0, 1, 1, 2, 2, 2, 2, 2, 2, 2, 2, 2, 2};
        int[] inPeriod = {0, 0, 1, 0, 1, 2, 0, 1, 2, 0, 1, 2, 0};
        int[] finished = {0, 1, 1, 2, 2, 2, 3, 3, 3, 4, 4, 4, 5};
        int[] left = {10, 30, 30, 60, 60, 60, 90, 90, 90, 120, 120, 120, 150};
        for (int moves = 0; moves < period.length; moves++) {
            Check.same("9 the period behind " + moves, clock.side(0, 2), period[moves]);
            Check.same("9 moves in it behind " + moves, clock.side(0, 3), inPeriod[moves]);
            Check.same("9 moves to its end behind " + moves, clock.side(0, 11), period[moves] + 1 - inPeriod[moves]);
            Check.same("28 finished behind " + moves, clock.finished(0), finished[moves]);
            Check.same("9 left behind " + moves, clock.side(0, 0), left[moves]);
            clock.move();
            clock.move();
        }
        clock = Check.begun("period moves 60 time 10;");
        for (int moves = 1; moves <= 120; moves++) {
            clock.move();
            clock.move();
            if (moves % 60 > 58 || moves % 60 < 2) {
                Check.same("9 moves of 60 behind " + moves, clock.side(0, 3), moves % 60);
                Check.same("9 moves to its end behind " + moves, clock.side(0, 11), 60 - moves % 60);
                Check.same("9 left behind " + moves, clock.side(0, 0), 10 + moves / 60 * 10);
            }
        }
    }

    // the last one as often as it did (28); in the last one of all its rounds (29)
    private static void finishedAndSpentOfAllRounds() {
        GameClock clock = Check.begun("period moves 1 time 50 delay 1;period moves 1 time 20 back 9;");
        int lost = 0;
        for (int round = 0; round < 6; round++) {
            Check.same("28 finished", clock.finished(0), round);
            Check.moveAfter(clock, 5 + round);
            lost += round == 0 ? 0 : 5 + round;
            Check.same("29 in the first period", clock.spent(0, 0), 4);
            Check.same("29 in all rounds of the last", clock.spent(0, 1), lost);
            Check.same("29 of black", clock.spent(1, 0) + clock.spent(1, 1), 0);
            clock.move();
        }
        String five = "period moves 1 time 50;";
        clock = Check.begun(five.repeat(5));
        for (int period = 0; period < 5; period++) {
            Check.moveAfter(clock, 3 + period);
            Check.moveAfter(clock, 10 + period);
        }
        for (int period = 0; period < 5; period++) {
            Check.same("29 white in " + period, clock.spent(0, period), 3 + period);
            Check.same("29 black in " + period, clock.spent(1, period), 10 + period);
        }
        clock.tick(2);
        Check.same("29 the last one again", clock.spent(0, 4), 9);
    }
}
