import java.util.function.Supplier;

/** Promises 53 to 56: the output. */
public final class OutputTest {
    private static final Class<?> NSEE = java.util.NoSuchElementException.class;

    private OutputTest() {
    }

    public static void main(String[] args) {
        promise53WriteClock();
        promise54WriteLog();
        promise54Limits();
        promise55WritePeriods();
        promise56OutputByte();
        writesLeaveTheGameAlone();
        Check.end("OutputTest");
    }

    private static void clock(String what, GameClock clock, String due) {
        int length = clock.writeClock();
        Check.same("53 length " + what, length, due.length());
        Check.same("53 " + what, Check.output(clock, due.length()), due);
        ends("53 " + what, clock, length);
    }

    private static void log(String what, GameClock clock, String due) {
        int length = clock.writeLog();
        Check.same("54 length " + what, length, due.length());
        Check.same("54 " + what, Check.output(clock, due.length()), due);
        ends("54 " + what, clock, length);
    }

    private static void periods(String text, String due) {
        GameClock clock = Check.loaded(text);
        int length = clock.writePeriods();
        Check.same("55 length " + text, length, due.length());
        Check.same("55 " + text, Check.output(clock, due.length()), due);
        ends("55 " + text, clock, length);
    }

    private static void ends(String what, GameClock clock, int length) {
        try {
            clock.outputByte(length);
            Check.tell(what + ": a byte behind the output");
        } catch (RuntimeException e) {
            Check.same(what + ": behind the output", e.getClass().getName(), NSEE.getName());
        }
    }

    private static GameClock of(int ticks) {
        return Check.loaded("period moves 0 time " + ticks + "; hand black 1;");
    }

    private static void promise53WriteClock() {
        clock("new", new GameClock(), "0:05:00* 0:05:00");
        clock("of 1", of(1), "0:00:01* 0:00:01");
        clock("of 90", of(90), "0:00:09* 0:00:10");
        clock("of 590", of(590), "0:00:59* 0:01:00");
        clock("of 5990", of(5990), "0:09:59* 0:10:00");
        clock("of 35990", of(35990), "0:59:59* 1:00:00");
        clock("of 99999", of(99999), "2:46:40* 2:46:40");
        GameClock game = Check.begun("period moves 0 time 50; extra 3 time 20; claims;");
        clock("with extra periods", game, "0:00:05+++* 0:00:05+++");
        game.tick(61);
        game.move();
        clock("black is to move", game, "0:00:02++ 0:00:05+++*");
        game.move();
        game.tick(60);
        clock("fallen", game, "0:00:00!* 0:00:05+++");
        game.move();
        game.tick(500);
        clock("both fallen", game, "0:00:00! 0:00:00!*");
        game = Check.begun("period moves 1 time 50; period moves 0 time 9; extra 9 time 20;");
        game.tick(50);
        clock("fallen with extra periods", game, "0:00:00!+++++++++* 0:00:05+++++++++");
        game = Check.begun("period moves 1 time 99999; period moves 1 time 99999;");
        for (int i = 0; i < 80; i++) {
            game.move();
        }
        clock("many hours", game, "113:53:16* 113:53:16");
        game.resign(0);
        clock("over", game, "113:53:16* 113:53:16");
    }

    private static void promise54WriteLog() {
        log("empty", new GameClock(), "");
        GameClock game = Check.begun("period moves 0 time 500 bonus 3 back 8; extra 1 time 40;");
        Check.moveAfter(game, 0);
        log("one", game, "w0+3");
        Check.moveAfter(game, 6);
        log("two", game, "w0+3 b6+9");
        game.setPeriod(0, 2, 0);
        Check.moveAfter(game, 20);
        Check.moveAfter(game, 0);
        log("no gains", game, "w0+3 b6+9 w20+8 b0");
        game.tick(500);
        game.give(0, 70);
        game.move();
        log("gains below 0", game, "w0+3 b6+9 w20+8 b0 w500+-61");
        game = Check.begun("period moves 1 time 10; period moves 0 time 5; claims;");
        Check.moveAfter(game, 12);
        log("fallen", game, "w12");
        game = Check.begun("period moves 0 time 5; extra 1 time 40;");
        game.tick(5);
        game.give(0, 1);
        game.move();
        log("gains of -1", game, "w5+-1");
    }

    private static void promise54Limits() {
        GameClock game = new GameClock();
        game.start();
        StringBuilder due = new StringBuilder();
        for (int i = 1; i <= 12; i++) {
            Check.moveAfter(game, i);
            due.append(i > 1 ? " " : "").append(i % 2 == 1 ? 'w' : 'b').append(i);
        }
        log("12 moves", game, due.toString());
        Check.moveAfter(game, 13);
        log("13 moves", game, due.substring(3) + " w13");
        game = new GameClock();
        game.start();
        for (int i = 0; i < 50; i++) {
            Check.moveAfter(game, i);
        }
        log("50 moves", game, "w38 b39 w40 b41 w42 b43 w44 b45 w46 b47 w48 b49");
        game = Check.begun("period moves 0 time 1 bonus 999 back 999; claims;");
        for (int i = 0; i < 6; i++) {
            Check.moveAfter(game, 0);
            Check.moveAfter(game, 0);
        }
        for (int i = 0; i < 12; i++) {
            game.give(i % 2, 9999);
            game.give(i % 2, 9999);
            for (int k = 0; k < 10; k++) {
                game.tick(1500);
            }
            game.move();
        }
        String one = "w15000+1998 b15000+1998";
        log("long ones", game, String.join(" ", one, one, one, one, one, one));
    }

    private static void promise55WritePeriods() {
        periods("period moves 0 time 5;", "r/5");
        periods("period moves 7 time 99999;", "7/99999");
        periods("period moves 0 time 5 bonus 1;", "r/5+1");
        periods("period moves 0 time 5 delay 2;", "r/5d2");
        periods("period moves 0 time 5 back 3;", "r/5b3");
        periods("period moves 0 time 5 bonus 0 delay 0 back 0;", "r/5");
        periods("period moves 60 time 5 bonus 999 delay 998 back 997; period moves 10 time 100 delay 20;"
                + "period moves 0 time 1 bonus 10 back 100; extra 1 time 5;", "60/5+999d998b997 10/100d20 r/1+10b100");
        StringBuilder text = new StringBuilder();
        for (int i = 0; i < 5; i++) {
            text.append("period moves 60 time 99999 bonus 999 delay 999 back 999;");
        }
        String one = "60/99999+999d999b999";
        periods(text.toString(), String.join(" ", one, one, one, one, one));
        GameClock game = new GameClock();
        game.setPeriod(0, 4, 12);
        Check.same("55 length behind setPeriod", game.writePeriods(), 9);
        Check.same("55 behind setPeriod", Check.output(game, 9), "r/3000b12");
    }

    private static GameClock written() {
        GameClock game = new GameClock();
        game.writePeriods();
        return game;
    }

    private static void promise56OutputByte() {
        GameClock game = written();
        int[] due = {'r', '/', '3', '0', '0', '0'};
        for (int i = 0; i < due.length; i++) {
            Check.same("56 byte " + i, game.outputByte(i), due[i]);
        }
        Supplier<GameClock> written = OutputTest::written;
        Check.refuses("56 index 6", NSEE, written, c -> c.outputByte(6));
        Check.refuses("56 index -1", NSEE, written, c -> c.outputByte(-1));
        Check.refuses("56 index least", NSEE, written, c -> c.outputByte(Integer.MIN_VALUE));
        Check.refuses("56 index most", NSEE, written, c -> c.outputByte(Integer.MAX_VALUE));
        Check.refuses("56 nothing is written", NSEE, GameClock::new, c -> c.outputByte(0));
        game.writeClock();
        Check.same("56 in its place", game.outputByte(15), '0');
        game.writeLog();
        Check.refuses("56 an empty output", NSEE, () -> {
            GameClock replaced = written();
            replaced.writeLog();
            return replaced;
        }, c -> c.outputByte(0));
        game.writeClock();
        Check.same("56 in place of the clock", game.writePeriods(), 6);
        game.start();
        game.tick(9);
        game.undo();
        Check.load(game, "period moves 0 time 5;");
        Check.same("56 stays until the next one", Check.output(game, 6), "r/3000");
    }

    private static GameClock moved() {
        GameClock game = Check.begun("period moves 3 time 50; session 3;");
        Check.moveAfter(game, 7);
        return game;
    }

    private static void writesLeaveTheGameAlone() {
        String due = Check.allBehind(OutputTest::moved, c -> c.writeLog());
        Check.same("53 to 55 change the output alone", Check.allBehind(OutputTest::moved, c -> {
            c.writeClock();
            c.writePeriods();
            c.writeLog();
        }), due);
    }
}
