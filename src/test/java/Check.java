import java.nio.charset.StandardCharsets;
import java.util.function.Consumer;
import java.util.function.Supplier;

/** What the tests share: comparing, feeding a text, and looking at all that a clock tells. */
final class Check {
    private static int wrong;
    private static int compared;

    private Check() {
    }

    static void same(String what, long got, long want) {
        compared++;
        if (got != want) {
            tell(what + " answered " + got + ", due is " + want);
        }
    }

    static void same(String what, double got, double want) {
        compared++;
        if (Double.compare(got, want) != 0) {
            tell(what + " answered " + got + ", due is " + want);
        }
    }

    static void same(String what, boolean got, boolean want) {
        same(what, got ? 1 : 0, want ? 1 : 0);
    }

    static void same(String what, String got, String want) {
        compared++;
        if (!got.equals(want)) {
            tell(what + " answered\n  " + got + "\ndue is\n  " + want);
        }
    }

    static void tell(String fault) {
        wrong++;
        System.out.println(fault);
    }

    /** The call throws just this exception, and a clock that was called so tells the same as its twin that was not. */
    static void refuses(String what, Class<?> due, Supplier<GameClock> maker, Consumer<GameClock> call) {
        compared++;
        GameClock clock = maker.get();
        try {
            call.accept(clock);
            tell(what + " threw nothing, due is " + due.getSimpleName());
        } catch (RuntimeException e) {
            if (e.getClass() != due) {
                tell(what + " threw " + e + ", due is " + due.getSimpleName());
            }
        }
        same(what + ": all behind it", everything(clock), everything(maker.get()));
    }

    /** The call changes nothing. */
    static void leavesAlone(String what, Supplier<GameClock> maker, Consumer<GameClock> call) {
        GameClock clock = maker.get();
        call.accept(clock);
        same(what + ": all behind it", everything(clock), everything(maker.get()));
    }

    static void feed(GameClock clock, String text) {
        byte[] bytes = text.getBytes(StandardCharsets.ISO_8859_1);
        int length = 0;
        for (int i = 0; i < bytes.length; i += 20) {
            int[] words = new int[5];
            for (int k = 0; k < 20; k++) {
                int sign = i + k < bytes.length ? bytes[i + k] & 255 : ' ';
                words[k / 4] = words[k / 4] << 8 | sign;
            }
            length = clock.append(words[0], words[1], words[2], words[3], words[4]);
        }
        if (bytes.length > 0) {
            clock.truncate(length - (20 - bytes.length % 20) % 20);
        }
    }

    static int load(GameClock clock, String text) {
        feed(clock, text);
        return clock.load();
    }

    static GameClock loaded(String text) {
        GameClock clock = new GameClock();
        if (load(clock, text) < 1) {
            throw new IllegalArgumentException("the test's own text has an error: " + text);
        }
        return clock;
    }

    static GameClock begun(String text) {
        GameClock clock = loaded(text);
        clock.start();
        return clock;
    }

    /** So many ticks pass, then a move is made; ticks are left out with 0. */
    static int moveAfter(GameClock clock, int ticks) {
        if (ticks > 0) {
            clock.tick(ticks);
        }
        return clock.move();
    }

    static String output(GameClock clock, int length) {
        StringBuilder text = new StringBuilder();
        for (int i = 0; i < length; i++) {
            text.append((char) clock.outputByte(i));
        }
        return text.toString();
    }

    /** All that the clock tells, and what undo() and the slots bring back; the clock is used up by it. */
    static String everything(GameClock clock) {
        StringBuilder all = new StringBuilder();
        all.append("error ").append(clock.errorCode()).append(' ').append(clock.errorPosition()).append('\n');
        all.append("output ").append(outputIfAny(clock)).append('\n');
        all.append("input ").append(clock.append(0, 0, 0, 0, 0)).append('\n');
        appendGame(all, clock);
        for (int slot = 0; slot < 2; slot++) {
            try {
                all.append("slot ").append(clock.restore(slot)).append('\n');
                appendGame(all, clock);
                clock.undo();
            } catch (IllegalStateException e) {
                all.append("no slot\n");
            }
        }
        // trying the slots may have pushed out the oldest entry, but then for the twin as well
        for (int i = 0; i < 6 && clock.undoCount() > 0; i++) {
            all.append("undo ").append(clock.undo());
            for (int what = 0; what < 12; what++) {
                all.append(' ').append(clock.property(what));
            }
            all.append(' ').append(clock.side(0, 0)).append(' ').append(clock.side(1, 0)).append('\n');
        }
        return all.toString();
    }

    private static String outputIfAny(GameClock clock) {
        StringBuilder text = new StringBuilder();
        for (int i = 0; i < 40; i++) {
            try {
                text.append((char) clock.outputByte(i));
            } catch (java.util.NoSuchElementException e) {
                return text.toString();
            }
        }
        return text.toString();
    }

    private static void appendGame(StringBuilder all, GameClock clock) {
        all.append("undo ").append(clock.undoCount()).append(" properties");
        for (int what = 0; what < 12; what++) {
            all.append(' ').append(clock.property(what));
        }
        for (int side = 0; side < 2; side++) {
            all.append("\nside");
            for (int what = 0; what < 12; what++) {
                all.append(' ').append(clock.side(side, what));
            }
            all.append(' ').append(clock.finished(side)).append(' ').append(clock.spent(side, 0));
        }
        for (int period = 0; period < clock.property(2); period++) {
            all.append("\nperiod");
            for (int what = 0; what < 5; what++) {
                all.append(' ').append(clock.period(period, what));
            }
        }
        all.append("\nlog ");
        try {
            for (int index = 0; index < 2; index++) {
                for (int what = 0; what < 6; what++) {
                    all.append(' ').append(clock.logged(index, what));
                }
            }
        } catch (IndexOutOfBoundsException e) {
            all.append('.');
        }
        all.append(' ').append(clock.gained(0)).append(' ').append(clock.gained(1)).append('\n');
    }

    static void end(String test) {
        System.out.println(test + ": " + compared + " answers compared, " + wrong + " wrong");
        if (wrong != 0) {
            System.exit(1);
        }
    }
}
