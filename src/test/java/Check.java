import java.nio.charset.StandardCharsets;
import java.util.function.Consumer;
import java.util.function.Supplier;

/** What the tests share: comparing, feeding a text, and looking at all that a clock tells. */
final class Check {
    private static int wrong;
    private static int compared;

    private Check() {
    }

    static void same(String what, long got, long want) {
        compared++;
        if (got != want) {
            tell(what + " answered " + got + ", due is " + want);
        }
    }

    static void same(String what, double got, double want) {
        compared++;
        if (Double.compare(got, want) != 0) {
            tell(what + " answered " + got + ", due is " + want);
        }
    }

    static void same(String what, boolean got, boolean want) {
        same(what, got ? 1 : 0, want ? 1 : 0);
    }

    static void same(String what, String got, String want) {
        compared++;
        if (!got.equals(want)) {
            String[] gotLines = got.split("\n");
            String[] wantLines = want.split("\n");
            int line = 0;
            while (line < gotLines.length - 1 && line < wantLines.length - 1
                    && gotLines[line].equals(wantLines[line])) {
                line++;
            }
            tell(what + " answered\n  " + gotLines[line] + "\ndue is\n  " + wantLines[line]);
        }
    }

    static void tell(String fault) {
        wrong++;
        System.out.println(fault);
    }

    /** The call throws just this exception, and a clock that was called so tells the same as its twin that was not. */
    static void refuses(String what, Class<?> due, Supplier<GameClock> maker, Consumer<GameClock> call) {
        compared++;
        try {
            call.accept(maker.get());
            tell(what + " threw nothing, due is " + due.getSimpleName());
            return;
        } catch (RuntimeException e) {
            if (e.getClass() != due) {
                tell(what + " threw " + e + ", due is " + due.getSimpleName());
            }
        }
        same(what + ": all behind it", allBehind(maker, c -> orThrows(c, call)), allBehind(maker, c -> { }));
    }

    /** The call changes nothing. */
    static void leavesAlone(String what, Supplier<GameClock> maker, Consumer<GameClock> call) {
        same(what + ": all behind it", allBehind(maker, call), allBehind(maker, c -> { }));
    }

    /** The call throws just this exception; what it may have changed is not looked at. */
    static void raises(String what, Class<?> due, Runnable call) {
        compared++;
        try {
            call.run();
            tell(what + " threw nothing, due is " + due.getSimpleName());
        } catch (RuntimeException e) {
            if (e.getClass() != due) {
                tell(what + " threw " + e + ", due is " + due.getSimpleName());
            }
        }
    }

    private static void orThrows(GameClock clock, Consumer<GameClock> call) {
        try {
            call.accept(clock);
        } catch (RuntimeException e) {
            // what it threw is looked at elsewhere
        }
    }

    /**
     * All that there is behind a call: the game, the log, each game that undo() brings back, the slots and both
     * buffers. Each part is asked of a clock of its own, as no clock is used for more than 512 calls; so the maker may
     * use some 100 calls.
     */
    static String allBehind(Supplier<GameClock> maker, Consumer<GameClock> call) {
        StringBuilder all = new StringBuilder();
        int undos = behind(maker, call).undoCount();
        for (int back = 0; back <= undos; back++) {
            GameClock clock = behind(maker, call);
            for (int i = 0; i < back; i++) {
                clock.undo();
            }
            all.append("behind ").append(back).append(" undo()\n");
            appendGame(all, clock);
        }
        for (int slot = 0; slot < 2; slot++) {
            GameClock clock = behind(maker, call);
            try {
                all.append("slot ").append(clock.restore(slot)).append('\n');
                appendGame(all, clock);
            } catch (IllegalStateException e) {
                all.append("an empty slot\n");
            }
        }
        GameClock read = behind(maker, call);
        all.append("input of ").append(inputLength(behind(maker, call))).append(" bytes, ").append(read.load());
        all.append('\n');
        appendGame(all, read);
        all.append("output ").append(outputIfAny(behind(maker, call))).append('\n');
        return all.toString();
    }

    private static GameClock behind(Supplier<GameClock> maker, Consumer<GameClock> call) {
        GameClock clock = maker.get();
        call.accept(clock);
        return clock;
    }

    private static int inputLength(GameClock clock) {
        try {
            return clock.append(0, 0, 0, 0, 0) - 20;
        } catch (IllegalStateException e) {
            // more than 380: found by cutting, from above
        }
        for (int length = 400; length > 380; length--) {
            try {
                clock.truncate(length);
                return length;
            } catch (IllegalArgumentException e) {
                // shorter than that
            }
        }
        return 380;
    }

    static void feed(GameClock clock, String text) {
        byte[] bytes = text.getBytes(StandardCharsets.ISO_8859_1);
        int length = 0;
        for (int i = 0; i < bytes.length; i += 20) {
            int[] words = new int[5];
            for (int k = 0; k < 20; k++) {
                int sign = i + k < bytes.length ? bytes[i + k] & 255 : ' ';
                words[k / 4] = words[k / 4] << 8 | sign;
            }
            length = clock.append(words[0], words[1], words[2], words[3], words[4]);
        }
        if (bytes.length > 0) {
            clock.truncate(length - (20 - bytes.length % 20) % 20);
        }
    }

    static int load(GameClock clock, String text) {
        feed(clock, text);
        return clock.load();
    }

    static GameClock loaded(String text) {
        GameClock clock = new GameClock();
        if (load(clock, text) < 1) {
            throw new IllegalArgumentException("the test's own text has an error: " + text);
        }
        return clock;
    }

    static GameClock begun(String text) {
        GameClock clock = loaded(text);
        clock.start();
        return clock;
    }

    /** So many ticks pass, then a move is made; ticks are left out with 0. */
    static int moveAfter(GameClock clock, int ticks) {
        if (ticks > 0) {
            clock.tick(ticks);
        }
        return clock.move();
    }

    static String output(GameClock clock, int length) {
        StringBuilder text = new StringBuilder();
        for (int i = 0; i < length; i++) {
            text.append((char) clock.outputByte(i));
        }
        return text.toString();
    }

    private static String outputIfAny(GameClock clock) {
        StringBuilder text = new StringBuilder();
        for (int i = 0; i < 256; i++) {
            try {
                text.append((char) clock.outputByte(i));
            } catch (java.util.NoSuchElementException e) {
                return text.toString();
            }
        }
        return text.toString();
    }

    /** Up to some 350 calls. */
    private static void appendGame(StringBuilder all, GameClock clock) {
        all.append("error ").append(clock.errorCode()).append(' ').append(clock.errorPosition());
        all.append(" undo ").append(clock.undoCount()).append(" properties");
        for (int what = 0; what < 12; what++) {
            all.append(' ').append(clock.property(what));
        }
        int periods = clock.property(2);
        for (int side = 0; side < 2; side++) {
            all.append("\nside");
            for (int what = 0; what < 12; what++) {
                all.append(' ').append(clock.side(side, what));
            }
            all.append(' ').append(clock.finished(side)).append(" spent");
            for (int period = 0; period < periods; period++) {
                all.append(' ').append(clock.spent(side, period));
            }
        }
        for (int period = 0; period < periods; period++) {
            all.append("\nperiod");
            for (int what = 0; what < 5; what++) {
                all.append(' ').append(clock.period(period, what));
            }
        }
        appendLog(all, clock);
    }

    private static void appendLog(StringBuilder all, GameClock clock) {
        all.append("\nlog");
        int moves = Math.min(40, clock.property(8));
        for (int index = 0; index < moves; index++) {
            for (int what = 0; what < 6; what++) {
                all.append(' ').append(clock.logged(index, what));
            }
        }
        try {
            clock.logged(moves, 0);
            all.append(" and one more");
        } catch (IndexOutOfBoundsException e) {
            all.append('.');
        }
        all.append('\n');
    }

    static void end(String test) {
        System.out.println(test + ": " + compared + " answers compared, " + wrong + " wrong");
        if (wrong != 0) {
            System.exit(1);
        }
    }
}
