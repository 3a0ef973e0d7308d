import java.util.NoSuchElementException;

/** Promises 1 to 6: a new object, the input buffer, load() and its errors. */
public final class InputTest {
    private static final Class<?> IAE = IllegalArgumentException.class;
    private static final Class<?> ISE = IllegalStateException.class;
    /** 22 bytes, so that what stands behind it begins at 22. */
    private static final String FIRST = "period moves 0 time 5;";
    private static final String ONE = "period moves 1 time 5;";

    private InputTest() {
    }

    public static void main(String[] args) {
        promise1NewObject();
        promise2Append();
        promise2Full();
        promise3Truncate();
        promise4LoadGood();
        promise4LoadBad();
        promise4LoadClears();
        promise4LoadIsUndone();
        promises5And6FirstStatement();
        promises5And6Period();
        promises5And6Others();
        promises5And6Tokens();
        promises5And6Last();
        Check.end("InputTest");
    }

    private static void promise1NewObject() {
        GameClock clock = new GameClock();
        int[] due = {0, 0, 1, 0, 0, -1, 0, 0, 0, -1, 0, -1};
        for (int what = 0; what < due.length; what++) {
            Check.same("1 property " + what, clock.property(what), due[what]);
        }
        int[] period = {0, 3000, 0, 0, 0};
        for (int what = 0; what < period.length; what++) {
            Check.same("1 period 0 " + what, clock.period(0, what), period[what]);
        }
        int[] side = {3000, 0, 0, 0, 0, 0, 0, 0, 0, 0, 0, -1};
        for (int what = 0; what < side.length; what++) {
            Check.same("1 white " + what, clock.side(0, what), side[what]);
            Check.same("1 black " + what, clock.side(1, what), side[what]);
        }
        Check.same("1 undoCount", clock.undoCount(), 0);
        Check.same("1 errorCode", clock.errorCode(), 0);
        Check.same("1 errorPosition", clock.errorPosition(), -1);
        Check.same("1 slowest", clock.slowest(), -1);
        Check.refuses("1 restore 0", ISE, GameClock::new, c -> c.restore(0));
        Check.refuses("1 restore 1", ISE, GameClock::new, c -> c.restore(1));
        Check.refuses("1 undo", ISE, GameClock::new, c -> c.undo());
        Check.refuses("1 output", NoSuchElementException.class, GameClock::new, c -> c.outputByte(0));
        Check.refuses("1 truncate", IAE, GameClock::new, c -> c.truncate(1));
        Check.same("1 append", clock.append(0, 0, 0, 0, 0), 20);
    }

    private static void promise2Append() {
        GameClock clock = new GameClock();
        // "peri" "od m" "oves" " 0 t" "ime " and then "5;" before blanks
        Check.same("2 append", clock.append(0x70657269, 0x6f64206d, 0x6f766573, 0x20302074, 0x696d6520), 20);
        Check.same("2 append", clock.append(0x37373b20, 0x20202020, 0x20202020, 0x20202020, 0x2020200a), 40);
        Check.same("2 load", clock.load(), 1);
        Check.same("2 time", clock.period(0, 1), 77);
        Check.same("2 high bytes", clock.append(0xe9202020, 0, 0, 0, 0), 20);
        Check.same("2 load", clock.load(), -4);
        Check.same("2 code", clock.errorCode(), 1);
        Check.same("2 position", clock.errorPosition(), 0);
        // each byte of each parameter stands in its place
        String text = FIRST + "extra 3 time 45;session 67;hand black 89;claims;";
        clock = Check.loaded(text);
        Check.same("2 extras", clock.property(3), 3);
        Check.same("2 extra time", clock.property(4), 45);
        Check.same("2 session", clock.property(5), 67);
        Check.same("2 hand", clock.side(1, 0), 94);
    }

    private static GameClock full() {
        GameClock clock = new GameClock();
        Check.feed(clock, FIRST);
        clock.truncate(22);
        clock.append(0x20202020, 0x20202020, 0x20202020, 0x20202020, 0x20202020);
        clock.truncate(40);
        for (int length = 60; length <= 400; length += 20) {
            Check.same("2 append", clock.append(0x20202020, 0x20202020, 0x20202020, 0x20202020, 0x20202020), length);
        }
        return clock;
    }

    private static void promise2Full() {
        GameClock clock = full();
        try {
            clock.append(1, 2, 3, 4, 5);
            Check.tell("2 append to 420 bytes threw nothing");
        } catch (RuntimeException e) {
            Check.same("2 append to 420 bytes", e.getClass().getName(), ISE.getName());
        }
        Check.same("2 load of 400 bytes", clock.load(), 1);
        Check.same("2 behind load", clock.append(0, 0, 0, 0, 0), 20);
        clock = full();
        clock.truncate(381);
        try {
            clock.append(1, 2, 3, 4, 5);
            Check.tell("2 append to 401 bytes threw nothing");
        } catch (RuntimeException e) {
            Check.same("2 append to 401 bytes", e.getClass().getName(), ISE.getName());
        }
        clock.truncate(380);
        Check.same("2 append up to 400", clock.append(0, 0, 0, 0, 0), 400);
        Check.same("2 zero bytes are symbols", clock.load(), -4);
        Check.same("2 their position", clock.errorPosition(), 380);
    }

    private static GameClock fed() {
        GameClock clock = new GameClock();
        Check.feed(clock, "period moves 0 time 123;");
        return clock;
    }

    private static void promise3Truncate() {
        Check.refuses("3 truncate -1", IAE, InputTest::fed, c -> c.truncate(-1));
        Check.refuses("3 truncate 25", IAE, InputTest::fed, c -> c.truncate(25));
        Check.refuses("3 truncate least", IAE, InputTest::fed, c -> c.truncate(Integer.MIN_VALUE));
        Check.refuses("3 truncate most", IAE, InputTest::fed, c -> c.truncate(Integer.MAX_VALUE));
        Check.leavesAlone("3 truncate to all", InputTest::fed, c -> c.truncate(24));
        GameClock clock = fed();
        clock.truncate(21);
        Check.same("3 append behind 21", clock.append(0x3b202020, 0x20202020, 0x20202020, 0x20202020, 0x20202020), 41);
        Check.same("3 load", clock.load(), 1);
        Check.same("3 the digit that was left", clock.period(0, 1), 1);
        clock = fed();
        clock.truncate(0);
        Check.same("3 load of nothing", clock.load(), -4);
        Check.same("3 its position", clock.errorPosition(), 0);
    }

    private static void promise4LoadGood() {
        Check.same("4 one period", Check.load(new GameClock(), FIRST), 1);
        Check.same("4 two periods", Check.load(new GameClock(), ONE + FIRST), 2);
        Check.same("4 five periods", Check.load(new GameClock(), ONE + ONE + ONE + ONE + ONE), 5);
        GameClock clock = Check.loaded("period moves 60 time 99999 bonus 1 delay 2 back 3;claims;"
                + "period moves 7 time 8 delay 9;hand white 9999;session 99999;extra 9 time 9999;"
                + "period moves 0 time 1 bonus 999 back 998;");
        int[][] due = {{60, 99999, 1, 2, 3}, {7, 8, 0, 9, 0}, {0, 1, 999, 0, 998}};
        for (int period = 0; period < 3; period++) {
            for (int what = 0; what < 5; what++) {
                Check.same("4 period " + period + " " + what, clock.period(period, what), due[period][what]);
            }
        }
        int[] properties = {0, 0, 3, 9, 9999, 99999, 0, 0, 0, -1, 1, -1};
        for (int what = 0; what < properties.length; what++) {
            Check.same("4 property " + what, clock.property(what), properties[what]);
        }
        int[] white = {109998, 0, 0, 0, 9, 0, 0, 0, 0, 0, 0, 60};
        int[] black = {99999, 0, 0, 0, 9, 0, 0, 0, 0, 0, 0, 60};
        for (int what = 0; what < white.length; what++) {
            Check.same("4 white " + what, clock.side(0, what), white[what]);
            Check.same("4 black " + what, clock.side(1, what), black[what]);
        }
        clock = Check.loaded(FIRST);
        Check.same("4 without extra", clock.property(3) + clock.property(4), 0);
        Check.same("4 without session", clock.property(5), -1);
        Check.same("4 without claims", clock.property(10), 0);
        Check.same("4 without hand", clock.side(0, 0) + clock.side(1, 0), 10);
    }

    /** A clock with something everywhere. */
    private static GameClock used() {
        GameClock clock = Check.begun("period moves 1 time 50 bonus 2;period moves 0 time 9;extra 2 time 4;"
                + "session 3;hand white 5;claims;");
        Check.moveAfter(clock, 7);
        Check.moveAfter(clock, 8);
        clock.keep(1);
        clock.tick(90);
        clock.setBare(0, true);
        clock.writeClock();
        return clock;
    }

    private static void promise4LoadBad() {
        GameClock clock = used();
        Check.feed(clock, "period moves 0 time 7; extra 1 time 2; session x");
        Check.same("4 error", clock.load(), GameClock.PARSE_ERROR);
        Check.same("4 the buffer is empty", clock.append(0, 0, 0, 0, 0), 20);
        String all = Check.allBehind(InputTest::used,
                c -> Check.load(c, "period moves 0 time 7; extra 1 time 2; session x"));
        String due = Check.allBehind(InputTest::used, c -> { });
        Check.same("4 the game as it was", all.replace("error 1 47 ", "error 0 -1 "), due);
    }

    private static void promise4LoadClears() {
        GameClock clock = used();
        String output = Check.output(clock, 5);
        Check.same("4 load", Check.load(clock, ONE + "session 5;"), 1);
        int[] properties = {0, 0, 1, 0, 0, 5, 0, 0, 0, -1, 0, -1};
        for (int what = 0; what < properties.length; what++) {
            Check.same("4 property " + what, clock.property(what), properties[what]);
        }
        int[] side = {5, 0, 0, 0, 0, 0, 0, 0, 0, 0, 0, 1};
        for (int what = 0; what < side.length; what++) {
            Check.same("4 white " + what, clock.side(0, what), side[what]);
            Check.same("4 black " + what, clock.side(1, what), side[what]);
        }
        Check.same("4 finished", clock.finished(0) + clock.finished(1), 0);
        Check.same("4 spent", clock.spent(0, 0) + clock.spent(1, 0), 0);
        Check.same("4 slowest", clock.slowest(), -1);
        Check.same("4 the output buffer stays", Check.output(clock, 5), output);
        Check.same("4 the slot stays", clock.restore(1), 15);
        Check.same("4 its moves", clock.property(8), 2);
        clock = Check.begun("period moves 9 time 5; claims;");
        Check.moveAfter(clock, 1);
        Check.moveAfter(clock, 2);
        Check.moveAfter(clock, 7);
        clock.tick(8);
        clock.claim(0);
        Check.load(clock, ONE + "session 5;");
        for (int what = 0; what < properties.length; what++) {
            Check.same("4 property behind the end " + what, clock.property(what), properties[what]);
        }
        for (int what = 0; what < side.length; what++) {
            Check.same("4 white behind the end " + what, clock.side(0, what), side[what]);
            Check.same("4 black behind the end " + what, clock.side(1, what), side[what]);
        }
    }

    private static void promise4LoadIsUndone() {
        GameClock clock = used();
        Check.same("4 undoCount", clock.undoCount(), 6);
        Check.load(clock, FIRST);
        Check.same("4 undoCount of 6", clock.undoCount(), 6);
        Check.same("4 undo", clock.undo(), 5);
        Check.same("4 moves again", clock.property(8), 2);
        Check.same("4 bare again", clock.side(0, 9), 1);
        clock = new GameClock();
        clock.start();
        Check.load(clock, FIRST);
        Check.same("4 undoCount behind start", clock.undoCount(), 2);
        Check.load(clock, "x");
        Check.same("4 an error is not undone", clock.undoCount(), 2);
    }

    private static void errs(String text, int code, int position) {
        GameClock clock = new GameClock();
        Check.same("4 load of " + text, Check.load(clock, text), -4);
        Check.same("5 errorCode of " + text, clock.errorCode(), code);
        Check.same("6 errorPosition of " + text, clock.errorPosition(), position);
        Check.same("4 undoCount of " + text, clock.undoCount(), 0);
    }

    private static void errsBehind(String text, int code, int position) {
        errs(FIRST + text, code, 22 + position);
    }

    private static void reads(String text) {
        GameClock clock = new GameClock();
        Check.same("4 load of " + text + " is good", Check.load(clock, text) > 0, true);
        Check.same("5 errorCode of " + text, clock.errorCode(), 0);
        Check.same("6 errorPosition of " + text, clock.errorPosition(), -1);
    }

    private static void promises5And6FirstStatement() {
        errs("", 1, 0);
        errs("   ", 1, 3);
        errs("\n", 1, 1);
        errs("extra 1 time 5;", 1, 0);
        errs("session 5;", 1, 0);
        errs("  hand white 5;", 1, 2);
        errs("claims;", 1, 0);
        errs("Period moves 0 time 5;", 1, 0);
        errs("perioD moves 0 time 5;", 1, 0);
        errs("perio moves 0 time 5;", 1, 0);
        errs("periods moves 0 time 5;", 1, 0);
        errs("qeriod moves 0 time 5;", 1, 0);
        errs(";", 1, 0);
        errs("5", 1, 0);
    }

    private static void promises5And6Period() {
        errs("period", 1, 6);
        errs("period ", 1, 7);
        errs("period time 5;", 1, 7);
        errs("period moves", 1, 12);
        errs("period moves x", 1, 13);
        errs("period moves ;", 1, 13);
        errs("period moves -1 time 5;", 1, 13);
        errs("period moves 61 time 5;", 2, 13);
        reads("period moves 60 time 5;");
        errs("period moves 0 0 time 5;", 1, 15);
        errs("period moves 0 moves", 1, 15);
        errs("period moves 0 time", 1, 19);
        errs("period moves 0 time 0;", 2, 20);
        errs("period moves 0 time 100000;", 2, 20);
        reads("period moves 0 time 99999;");
        errs("period moves 0 time 99999", 1, 25);
        errs("period moves 0 time 5 5;", 1, 22);
        errs("period moves 0 time 5 bonus 1000;", 2, 28);
        errs("period moves 0 time 5 delay 1000;", 2, 28);
        errs("period moves 0 time 5 back 1000;", 2, 27);
        reads("period moves 0 time 5 bonus 999 delay 999 back 999;");
        reads("period moves 0 time 5 bonus 0 delay 0 back 0;");
        errs("period moves 0 time 5 delay 1 bonus 1;", 1, 30);
        errs("period moves 0 time 5 back 1 delay 1;", 1, 29);
        errs("period moves 0 time 5 back 1 bonus 1;", 1, 29);
        errs("period moves 0 time 5 bonus 1 bonus 2;", 1, 30);
        errs("period moves 0 time 5 bonus;", 1, 27);
        errs("period moves 0 time 5 back", 1, 26);
        errs("period moves 0 time 5 period", 1, 22);
        errs("period moves 0 time 5 claims", 1, 22);
        errsBehind("period moves 1 time 5;", 4, 0);
        errsBehind("claims; period moves 1 time 5;", 4, 8);
        errs(ONE + FIRST + ONE, 4, 44);
        errs(ONE + ONE + ONE + ONE + ONE + ONE, 3, 110);
        errs(ONE + ONE + ONE + ONE + FIRST + ONE, 3, 110);
        errs(ONE + ONE + ONE + FIRST + ONE, 4, 88);
    }

    private static void promises5And6Others() {
        errsBehind("extra 0 time 5;", 2, 6);
        errsBehind("extra 10 time 5;", 2, 6);
        reads(FIRST + "extra 9 time 9999;");
        reads(FIRST + "extra 1 time 1;");
        errsBehind("extra 1 time 0;", 2, 13);
        errsBehind("extra 1 time 10000;", 2, 13);
        errsBehind("extra time 5;", 1, 6);
        errsBehind("extra 1;", 1, 7);
        errsBehind("extra 1 time;", 1, 12);
        errsBehind("extra 1 time 5", 1, 14);
        errsBehind("extra 1 time 5 6;", 1, 15);
        errsBehind("extra 1 time 5;extra 1 time 5;", 3, 15);
        errsBehind("extra 1 time 5 extra", 1, 15);
        errsBehind("session 0;", 2, 8);
        errsBehind("session 100000;", 2, 8);
        reads(FIRST + "session 99999;");
        reads(FIRST + "session 1;");
        errsBehind("session;", 1, 7);
        errsBehind("session 5", 1, 9);
        errsBehind("session 5;session", 3, 10);
        errsBehind("hand white 0;", 2, 11);
        errsBehind("hand black 10000;", 2, 11);
        reads(FIRST + "hand white 9999;");
        reads(FIRST + "hand black 1;");
        errsBehind("hand green 5;", 1, 5);
        errsBehind("hand 5;", 1, 5);
        errsBehind("hand white;", 1, 10);
        errsBehind("hand white black 5;", 1, 11);
        errsBehind("hand white 5;hand black 5;", 3, 13);
        errsBehind("hand black 5;hand", 3, 13);
        errsBehind("claims 5;", 1, 7);
        errsBehind("claims", 1, 6);
        errsBehind("claims;claims;", 3, 7);
        errsBehind("claims claims;", 1, 7);
        errsBehind("white;", 1, 0);
        errsBehind(";", 1, 0);
        errsBehind("7", 1, 0);
        reads(FIRST + "hand white 5;claims;session 6;extra 1 time 7;");
        reads(ONE + "claims;" + ONE + "session 5;" + FIRST);
    }

    private static void promises5And6Tokens() {
        GameClock clock = Check.loaded("\nperiod moves2time100bonus5delay0006back7;claims;\n \n");
        Check.same("4 a word ends at a digit", clock.period(0, 1), 100);
        Check.same("4 leading zeros", clock.period(0, 3), 6);
        clock = Check.loaded("period moves 0000000000000000000000000000007 time 000000000000000000000000100;");
        Check.same("4 many zeros", clock.period(0, 0), 7);
        Check.same("4 many zeros", clock.period(0, 1), 100);
        errs("period moves 0 time 4294967301;", 2, 20);
        errs("period moves 0 time 18446744073709551621;", 2, 20);
        errs("period moves 0 time 100000000000000000000000000000000000000;", 2, 20);
        errs("periodmoves 0 time 5;", 1, 0);
        errs("period\tmoves 0 time 5;", 1, 6);
        errs("period\rmoves 0 time 5;", 1, 6);
        errs("period moves 0 time 5\u00e9;", 1, 21);
        errs("period moves 0 time 5\u003a", 1, 21);
        errs("period moves /", 1, 13);
        errs("period moves `", 1, 13);
        errs("period {", 1, 7);
        errsBehind("Claims;", 1, 0);
        errsBehind("\u0000", 1, 0);
        errsBehind("  \n foo", 1, 4);
        errsBehind("claim;", 1, 0);
        errsBehind("claimss;", 1, 0);
        errsBehind("claimsz;", 1, 0);
        errsBehind("claimsa;", 1, 0);
        errsBehind("session 5Z;", 1, 9);
        errsBehind("session 10;session 09;", 3, 11);
        errsBehind("extra 1 time 5 ;session 5:", 1, 25);
    }

    private static void promises5And6Last() {
        GameClock clock = new GameClock();
        Check.load(clock, FIRST + FIRST);
        Check.same("5 first", clock.errorCode(), 4);
        Check.load(clock, "period moves 61");
        Check.same("5 of the last", clock.errorCode(), 2);
        Check.same("6 of the last", clock.errorPosition(), 13);
        clock.start();
        clock.undo();
        Check.same("5 behind undo", clock.errorCode(), 2);
        Check.same("6 behind undo", clock.errorPosition(), 13);
        Check.load(clock, FIRST);
        Check.same("5 behind a good one", clock.errorCode(), 0);
        Check.same("6 behind a good one", clock.errorPosition(), -1);
        Check.load(clock, "?");
        clock.undo();
        Check.same("5 stays with undo of a load", clock.errorCode(), 1);
        Check.same("6 stays with undo of a load", clock.errorPosition(), 0);
        clock.keep(0);
        Check.load(clock, FIRST);
        clock.restore(0);
        Check.same("5 stays with restore", clock.errorCode(), 0);
    }
}
