import java.util.ArrayList;
import java.util.LinkedHashMap;
import java.util.List;
import java.util.Map;
import java.util.NoSuchElementException;
import java.util.Set;
import java.util.function.BiConsumer;
import java.util.function.Consumer;
import java.util.function.Supplier;

/**
 * The section EXCEPTIONS: each exception of each throws clause in each state of a game, which of several is thrown,
 * that a call that throws changes nothing, and that a value at the two ends of its range is taken.
 */
public final class RefusedTest {
    private static final Class<?> IAE = IllegalArgumentException.class;
    private static final Class<?> IOOBE = IndexOutOfBoundsException.class;
    private static final Class<?> ISE = IllegalStateException.class;
    private static final Class<?> NSEE = NoSuchElementException.class;
    private static final String TEXT = "period moves 9 time 900 bonus 5 delay 3 back 4;period moves 0 time 40 bonus 1;"
            + "extra 2 time 20;session 30;hand black 10;claims;";
    /** Clocks in each state, with as much behind them as there can be; asked for by their names. */
    private static final Map<String, Supplier<GameClock>> CLOCKS = new LinkedHashMap<>();

    private RefusedTest() {
    }

    public static void main(String[] args) {
        makers();
        sidesThatDoNotExist();
        periodsThatDoNotExist();
        movesOfTheLogThatDoNotExist();
        slotsThatDoNotExist();
        bytesThatDoNotExist();
        numbersOfWhatOutOfRange();
        pacesOutOfRange();
        ticksOutOfRange();
        movesOutOfRange();
        valuesOutOfRange();
        theFirstOfSeveral();
        statesThatDoNotAllowIt();
        flagsThatDoNotAllowIt();
        timeThatDoesNotAllowIt();
        emptinessThatDoesNotAllowIt();
        Check.end("RefusedTest");
    }

    private static void makers() {
        CLOCKS.put("new", GameClock::new);
        CLOCKS.put("not begun", RefusedTest::notBegun);
        CLOCKS.put("begun", RefusedTest::begun);
        CLOCKS.put("running", RefusedTest::running);
        CLOCKS.put("paused", RefusedTest::paused);
        CLOCKS.put("adjourned", RefusedTest::adjourned);
        CLOCKS.put("over", RefusedTest::over);
        CLOCKS.put("fallen", RefusedTest::fallen);
        int[] states = {0, 0, 1, 1, 2, 3, 4, 1};
        int i = 0;
        for (String name : CLOCKS.keySet()) {
            Check.same("the state of " + name, CLOCKS.get(name).get().property(0), states[i]);
            i++;
        }
    }

    private static GameClock notBegun() {
        GameClock clock = Check.loaded(TEXT);
        Check.load(clock, "period moves 0 time 0;");
        Check.feed(clock, "period moves 3 time 77;");
        clock.writePeriods();
        clock.setBare(1, true);
        return clock;
    }

    /** One move of white, one slot kept, and three calls to undo. */
    private static GameClock begun() {
        GameClock clock = Check.begun(TEXT);
        clock.keep(1);
        clock.writeClock();
        clock.move();
        return clock;
    }

    /** More moves than the log and undo() hold, an error, an input and an output, and one slot kept. */
    private static GameClock running() {
        GameClock clock = Check.begun(TEXT);
        for (int i = 0; i < 44; i++) {
            clock.move();
            if (i == 20) {
                clock.keep(0);
            }
        }
        clock.tick(9);
        clock.writeLog();
        Check.load(clock, "x");
        Check.feed(clock, "period moves 3 time 77;");
        return clock;
    }

    private static GameClock paused() {
        GameClock clock = running();
        clock.pause();
        return clock;
    }

    private static GameClock adjourned() {
        GameClock clock = running();
        clock.tick(21);
        clock.seal();
        return clock;
    }

    private static GameClock over() {
        GameClock clock = running();
        clock.resign(1);
        return clock;
    }

    /** White's flag fell, and white is to move. */
    private static GameClock fallen() {
        GameClock clock = running();
        clock.tick(2000);
        return clock;
    }

    private static void inEachState(String what, Class<?> due, Consumer<GameClock> call) {
        for (String name : CLOCKS.keySet()) {
            Check.refuses(what + ", " + name, due, CLOCKS.get(name), call);
        }
    }

    private static void refused(String what, Class<?> due, BiConsumer<GameClock, Integer> call, int... values) {
        for (int value : values) {
            inEachState(what + " " + value, due, c -> call.accept(c, value));
        }
    }

    /** In each state the two ends of a range are taken, and one beyond each, and the ends of int, are refused. */
    private static void range(String what, Class<?> due, int least, int most, BiConsumer<GameClock, Integer> call) {
        refused(what, due, call, least - 1, most + 1, Integer.MIN_VALUE, Integer.MAX_VALUE);
        for (String name : CLOCKS.keySet()) {
            taken(what, name, call, least);
            taken(what, name, call, most);
        }
    }

    private static void taken(String what, String name, BiConsumer<GameClock, Integer> call, int value) {
        try {
            call.accept(CLOCKS.get(name).get(), value);
            Check.same(what, 0, 0);
        } catch (RuntimeException e) {
            Check.tell(what + " " + value + ", " + name + " threw " + e);
        }
    }

    // A side, period, move of the log or slot that does not exist causes an IndexOutOfBoundsException
    private static void sidesThatDoNotExist() {
        range("9 side's side", IOOBE, 0, 1, (c, v) -> c.side(v, 0));
        range("11 flagIn's side", IOOBE, 0, 1, (c, v) -> c.flagIn(v));
        range("12 delayLeft's side", IOOBE, 0, 1, (c, v) -> c.delayLeft(v));
        range("13 shown's side", IOOBE, 0, 1, (c, v) -> c.shown(v));
        range("14 pace's side", IOOBE, 0, 1, (c, v) -> c.pace(v));
        range("15 lasts's side", IOOBE, 0, 1, (c, v) -> c.lasts(v, 1));
        range("17 longest's side", IOOBE, 0, 1, (c, v) -> c.longest(v));
        range("18 meanThink's side", IOOBE, 0, 1, (c, v) -> c.meanThink(v));
        range("19 share's side", IOOBE, 0, 1, (c, v) -> c.share(v));
        range("20 leftIn's side", IOOBE, 0, 1, (c, v) -> c.leftIn(v, 0));
        range("27 gained's side", IOOBE, 0, 1, (c, v) -> c.gained(v));
        range("28 finished's side", IOOBE, 0, 1, (c, v) -> c.finished(v));
        range("29 spent's side", IOOBE, 0, 1, (c, v) -> c.spent(v, 0));
        range("31 within's side", IOOBE, 0, 1, (c, v) -> c.within(v, 0));
        range("32 paceFor's side", IOOBE, 0, 1, (c, v) -> c.paceFor(v, 1));
        range("33 needs's side", IOOBE, 0, 1, (c, v) -> c.needs(v, 1, 1));
        range("45 setBare's side", IOOBE, 0, 1, (c, v) -> c.setBare(v, true));
        refused("42 claim's side", IOOBE, (c, v) -> c.claim(v), -1, 2, Integer.MIN_VALUE, Integer.MAX_VALUE);
        refused("43 resign's side", IOOBE, (c, v) -> c.resign(v), -1, 2, Integer.MIN_VALUE, Integer.MAX_VALUE);
        refused("44 give's side", IOOBE, (c, v) -> c.give(v, 0), -1, 2, Integer.MIN_VALUE, Integer.MAX_VALUE);
    }

    private static void periodsThatDoNotExist() {
        range("8 period's first", IOOBE, 0, 0, (c, v) -> c.period(v > 0 ? c.property(2) - 1 + v : v, 0));
        range("29 spent's period", IOOBE, 0, 0, (c, v) -> c.spent(1, v > 0 ? c.property(2) - 1 + v : v));
        range("47 setPeriod's first", IOOBE, 0, 0, (c, v) -> c.setPeriod(v > 0 ? c.property(2) - 1 + v : v, 2, 0));
        for (int periods = 1; periods <= 5; periods++) {
            String text = "period moves 1 time 5;".repeat(periods);
            int beyond = periods;
            Check.same("8 the last one", Check.loaded(text).period(periods - 1, 1), 5);
            Check.same("29 the last one", Check.loaded(text).spent(0, periods - 1), 0);
            Check.same("47 the last one", Check.loaded(text).setPeriod(periods - 1, 2, 1), 0);
            Check.refuses("8 behind the last one", IOOBE, () -> Check.loaded(text), c -> c.period(beyond, 1));
            Check.refuses("29 behind the last one", IOOBE, () -> Check.loaded(text), c -> c.spent(0, beyond));
            Check.refuses("47 behind the last one", IOOBE, () -> Check.loaded(text), c -> c.setPeriod(beyond, 2, 1));
        }
    }

    private static void movesOfTheLogThatDoNotExist() {
        refused("10 logged's index", IOOBE, (c, v) -> c.logged(v, 0), -1, 40, 41, Integer.MIN_VALUE,
                Integer.MAX_VALUE);
        for (int moves : new int[] {0, 1, 2, 39, 40, 41, 80, 81}) {
            Supplier<GameClock> moved = () -> moved(moves);
            int count = Math.min(40, moves);
            if (count > 0) {
                Check.same("10 the first of " + moves, moved(moves).logged(0, 0), 1 - moves % 2);
                Check.same("10 the last of " + moves, moved(moves).logged(count - 1, 0), (moves - count) % 2);
            }
            Check.refuses("10 behind the last of " + moves, IOOBE, moved, c -> c.logged(count, 0));
            Check.refuses("10 ahead of the first of " + moves, IOOBE, moved, c -> c.logged(-1, 0));
        }
    }

    private static GameClock moved(int moves) {
        GameClock clock = new GameClock();
        clock.start();
        for (int i = 0; i < moves; i++) {
            clock.move();
        }
        return clock;
    }

    private static void slotsThatDoNotExist() {
        range("49 keep's slot", IOOBE, 0, 1, (c, v) -> c.keep(v));
        range("50 restore's slot", IOOBE, 0, 1, (c, v) -> {
            if (v == 0 || v == 1) {
                c.keep(v);
            }
            c.restore(v);
        });
    }

    // Throws NoSuchElementException if there is no such byte
    private static void bytesThatDoNotExist() {
        refused("56 outputByte's index", NSEE, (c, v) -> c.outputByte(v), -1, 256, 400, Integer.MIN_VALUE,
                Integer.MAX_VALUE);
        for (String name : CLOCKS.keySet()) {
            GameClock clock = CLOCKS.get(name).get();
            int length = clock.writeClock();
            Check.same("56 a digit first", Character.isDigit(clock.outputByte(0)), true);
            Check.same("56 a byte at the end", clock.outputByte(length - 1) > 0, true);
            Check.raises("56 behind the end", NSEE, () -> clock.outputByte(length));
            int shorter = clock.writePeriods();
            Check.raises("56 behind the new end", NSEE, () -> clock.outputByte(shorter));
        }
    }

    // another value that is out of range causes an IllegalArgumentException
    private static void numbersOfWhatOutOfRange() {
        range("7 property's what", IAE, 0, 11, (c, v) -> c.property(v));
        range("8 period's what", IAE, 0, 4, (c, v) -> c.period(0, v));
        range("9 side's what", IAE, 0, 11, (c, v) -> c.side(1, v));
        range("47 setPeriod's what", IAE, 2, 4, (c, v) -> c.setPeriod(0, v, 7));
        for (String name : List.of("begun", "running", "paused", "adjourned", "over", "fallen")) {
            for (int what : new int[] {-1, 6, Integer.MIN_VALUE, Integer.MAX_VALUE}) {
                Check.refuses("10 logged's what " + what, IAE, CLOCKS.get(name), c -> c.logged(0, what));
            }
            taken("10 logged's what", name, (c, v) -> c.logged(0, v), 0);
            taken("10 logged's what", name, (c, v) -> c.logged(0, v), 5);
        }
    }

    private static void pacesOutOfRange() {
        range("15 lasts's pace", IAE, 1, 9999, (c, v) -> c.lasts(0, v));
        range("24 ends's white", IAE, 1, 9999, (c, v) -> c.ends(v, 1));
        range("24 ends's black", IAE, 1, 9999, (c, v) -> c.ends(1, v));
        range("25 endsAfter's white", IAE, 1, 9999, (c, v) -> c.endsAfter(v, 1));
        range("25 endsAfter's black", IAE, 1, 9999, (c, v) -> c.endsAfter(1, v));
        range("26 movesIn's white", IAE, 1, 9999, (c, v) -> c.movesIn(v, 1, 1));
        range("26 movesIn's black", IAE, 1, 9999, (c, v) -> c.movesIn(1, v, 1));
        range("33 needs's pace", IAE, 1, 9999, (c, v) -> c.needs(1, 1, v));
        range("34 aheadAfter's white", IAE, 1, 9999, (c, v) -> c.aheadAfter(v, 1, 1));
        range("34 aheadAfter's black", IAE, 1, 9999, (c, v) -> c.aheadAfter(1, v, 1));
    }

    private static void ticksOutOfRange() {
        range("20 leftIn's ticks", IAE, 0, 9999, (c, v) -> c.leftIn(0, v));
        range("26 movesIn's ticks", IAE, 1, 9999, (c, v) -> c.movesIn(1, 1, v));
        range("31 within's ticks", IAE, 0, 9999, (c, v) -> c.within(0, v));
        range("36 tick's ticks", IAE, 1, 9999, (c, v) -> c.tick(v));
        refused("44 give's ticks", IAE, (c, v) -> c.give(1, v), -10000, 10000, Integer.MIN_VALUE, Integer.MAX_VALUE);
        for (String name : List.of("new", "not begun", "running", "paused", "adjourned", "fallen")) {
            taken("44 give's ticks", name, (c, v) -> c.give(1, v), 9999);
            taken("44 give's ticks", name, (c, v) -> {
                c.give(1, 9999);
                c.give(1, v);
            }, -9999);
        }
    }

    private static void movesOutOfRange() {
        range("32 paceFor's moves", IAE, 1, 200, (c, v) -> c.paceFor(0, v));
        range("33 needs's moves", IAE, 1, 200, (c, v) -> c.needs(0, v, 1));
        range("34 aheadAfter's moves", IAE, 0, 400, (c, v) -> c.aheadAfter(1, 1, v));
    }

    private static void valuesOutOfRange() {
        for (int what = 2; what <= 4; what++) {
            int number = what;
            range("47 setPeriod's value of " + what, IAE, 0, 999, (c, v) -> c.setPeriod(0, number, v));
        }
        for (String name : CLOCKS.keySet()) {
            for (int what = 2; what <= 4; what++) {
                GameClock clock = CLOCKS.get(name).get();
                int before = clock.period(0, what);
                Check.same("47 the value before", clock.setPeriod(0, what, 999), before);
                Check.same("47 999", clock.period(0, what), 999);
                Check.same("47 999 before", clock.setPeriod(0, what, 0), 999);
                Check.same("47 0", clock.period(0, what), 0);
            }
        }
    }

    // If several exceptions apply, the one that is named first in the method's throws clause is thrown.
    private static void theFirstOfSeveral() {
        for (int wrong : new int[] {-1, 5, Integer.MIN_VALUE, Integer.MAX_VALUE}) {
            inEachState("8 period, both", IOOBE, c -> c.period(wrong, 5));
            inEachState("8 period, both", IOOBE, c -> c.period(wrong, -1));
            inEachState("9 side, both", IOOBE, c -> c.side(wrong, 12));
            inEachState("9 side, both", IOOBE, c -> c.side(wrong, -1));
            inEachState("10 logged, both", IOOBE, c -> c.logged(wrong < 0 ? wrong : 40, 6));
            inEachState("10 logged, both", IOOBE, c -> c.logged(wrong < 0 ? wrong : 40, -1));
            inEachState("15 lasts, both", IOOBE, c -> c.lasts(wrong, 0));
            inEachState("15 lasts, both", IOOBE, c -> c.lasts(wrong, 10000));
            inEachState("20 leftIn, both", IOOBE, c -> c.leftIn(wrong, -1));
            inEachState("20 leftIn, both", IOOBE, c -> c.leftIn(wrong, 10000));
            inEachState("29 spent, both", IOOBE, c -> c.spent(wrong, wrong));
            inEachState("31 within, both", IOOBE, c -> c.within(wrong, -1));
            inEachState("31 within, both", IOOBE, c -> c.within(wrong, 10000));
            inEachState("32 paceFor, both", IOOBE, c -> c.paceFor(wrong, 0));
            inEachState("32 paceFor, both", IOOBE, c -> c.paceFor(wrong, 201));
            inEachState("33 needs, moves too", IOOBE, c -> c.needs(wrong, 0, 1));
            inEachState("33 needs, pace too", IOOBE, c -> c.needs(wrong, 1, 0));
            inEachState("33 needs, all", IOOBE, c -> c.needs(wrong, 201, 10000));
            inEachState("44 give, both", IOOBE, c -> c.give(wrong, 10000));
            inEachState("44 give, both", IOOBE, c -> c.give(wrong, -10000));
            inEachState("47 setPeriod, what too", IOOBE, c -> c.setPeriod(wrong, 1, 0));
            inEachState("47 setPeriod, value too", IOOBE, c -> c.setPeriod(wrong, 2, 1000));
            inEachState("47 setPeriod, all", IOOBE, c -> c.setPeriod(wrong, 5, -1));
        }
        Check.refuses("10 an empty log and what", IOOBE, GameClock::new, c -> c.logged(0, 6));
        Check.refuses("10 an empty log and what", IOOBE, RefusedTest::notBegun, c -> c.logged(0, -1));
        for (int side = 0; side < 2; side++) {
            int one = side;
            // 42: the flag did not fall, or the game is over; 43, 44: it is over; 44: the flag fell
            Check.refuses("42 and not fallen", IOOBE, CLOCKS.get("running"), c -> c.claim(2 + one));
            Check.refuses("42 and over", IOOBE, CLOCKS.get("over"), c -> c.claim(-1 - one));
            Check.refuses("43 and over", IOOBE, CLOCKS.get("over"), c -> c.resign(2 + one));
            Check.refuses("44 ticks and over", IAE, CLOCKS.get("over"), c -> c.give(one, 10000));
            Check.refuses("44 ticks and over", IAE, CLOCKS.get("over"), c -> c.give(one, -10000));
            Check.refuses("44 side and over", IOOBE, CLOCKS.get("over"), c -> c.give(2 + one, 1));
            Check.refuses("50 slot and nothing kept", IOOBE, CLOCKS.get("new"), c -> c.restore(2 + one));
        }
        Check.refuses("44 ticks and fallen", IAE, CLOCKS.get("fallen"), c -> c.give(0, 10000));
        Check.refuses("44 ticks and less than 1", IAE, CLOCKS.get("new"), c -> c.give(0, -10000));
    }

    /** The call throws an IllegalStateException in each state but these. */
    private static void onlyIn(String what, Set<Integer> states, Consumer<GameClock> call) {
        List<String> seen = new ArrayList<>();
        for (String name : CLOCKS.keySet()) {
            if (states.contains(CLOCKS.get(name).get().property(0))) {
                taken(what, name, (c, v) -> call.accept(c), 0);
                seen.add(name);
            } else {
                Check.refuses(what + ", " + name, ISE, CLOCKS.get(name), call);
            }
        }
        Check.same(what + " is taken somewhere", seen.isEmpty(), false);
    }

    // Throws IllegalStateException if the state is not ..
    private static void statesThatDoNotAllowIt() {
        onlyIn("35 start", Set.of(0), c -> c.start());
        onlyIn("37 move", Set.of(1), c -> c.move());
        onlyIn("38 pause", Set.of(1), c -> c.pause());
        onlyIn("39 proceed", Set.of(2), c -> c.proceed());
        onlyIn("41 open", Set.of(3), c -> c.open());
        onlyIn("43 resign 0", Set.of(0, 1, 2, 3), c -> c.resign(0));
        onlyIn("43 resign 1", Set.of(0, 1, 2, 3), c -> c.resign(1));
        onlyIn("44 give", Set.of(0, 1, 2, 3), c -> c.give(1, 1));
        onlyIn("48 swap", Set.of(0, 2), c -> c.swap());
        Check.refuses("42 claim, and the flag fell, but it is over", ISE, RefusedTest::claimed, c -> c.claim(1));
    }

    private static GameClock claimed() {
        GameClock clock = fallen();
        clock.claim(1);
        return clock;
    }

    // Throws IllegalStateException if .. the flag of the other side did not fall; .. its flag fell
    private static void flagsThatDoNotAllowIt() {
        for (String name : CLOCKS.keySet()) {
            Check.refuses("42 claim 0, " + name, ISE, CLOCKS.get(name), c -> c.claim(0));
            if (!name.equals("fallen")) {
                Check.refuses("42 claim 1, " + name, ISE, CLOCKS.get(name), c -> c.claim(1));
            }
        }
        taken("42 claim 1", "fallen", (c, v) -> c.claim(v), 1);
        for (int ticks : new int[] {-9999, -1, 0, 1, 9999}) {
            Check.refuses("44 give " + ticks + ", its flag fell", ISE, CLOCKS.get("fallen"), c -> c.give(0, ticks));
        }
        taken("44 give the other side", "fallen", (c, v) -> c.give(1, v), 1);
    }

    // Throws IllegalStateException if sealing is not possible; .. it would have left less than 1
    private static void timeThatDoesNotAllowIt() {
        for (String name : List.of("new", "not begun", "begun", "running", "paused", "adjourned", "over")) {
            Check.refuses("40 seal, " + name, ISE, CLOCKS.get(name), c -> c.seal());
        }
        taken("40 seal", "fallen", (c, v) -> c.seal(), 0);
        Supplier<GameClock> tooEarly = () -> ticked("period moves 0 time 50;session 30;", 29);
        Check.refuses("40 seal one tick ahead", ISE, tooEarly, c -> c.seal());
        Check.same("40 seal at its length", ticked("period moves 0 time 50;session 30;", 30).seal(), 0);
        Check.refuses("40 seal without a session", ISE, () -> ticked("period moves 0 time 50;", 49), c -> c.seal());
        Check.refuses("44 give -900 of 900", ISE, CLOCKS.get("not begun"), c -> c.give(0, -900));
        Check.refuses("44 give -901 of 900", ISE, CLOCKS.get("not begun"), c -> c.give(0, -901));
        Check.refuses("44 give -9999 of 910", ISE, CLOCKS.get("not begun"), c -> c.give(1, -9999));
        Check.same("44 give -899 of 900", notBegun().give(0, -899), 1);
    }

    private static GameClock ticked(String text, int ticks) {
        GameClock clock = Check.begun(text);
        clock.tick(ticks);
        return clock;
    }

    // Throws IllegalStateException if nothing is kept there; .. if there is nothing to undo
    private static void emptinessThatDoesNotAllowIt() {
        Check.refuses("50 restore 0, nothing kept", ISE, CLOCKS.get("new"), c -> c.restore(0));
        Check.refuses("50 restore 1, nothing kept", ISE, CLOCKS.get("new"), c -> c.restore(1));
        Check.refuses("50 restore 0, but 1 is kept", ISE, CLOCKS.get("begun"), c -> c.restore(0));
        Check.refuses("50 restore 1, but 0 is kept", ISE, CLOCKS.get("running"), c -> c.restore(1));
        Check.refuses("51 undo, nothing done", ISE, CLOCKS.get("new"), c -> c.undo());
        for (String name : CLOCKS.keySet()) {
            Check.refuses("51 undo, all undone, " + name, ISE, () -> undone(CLOCKS.get(name).get()), c -> c.undo());
        }
    }

    private static GameClock undone(GameClock clock) {
        for (int left = clock.undoCount(); left > 0; left--) {
            Check.same("51 undo", clock.undo(), left - 1);
        }
        return clock;
    }
}
