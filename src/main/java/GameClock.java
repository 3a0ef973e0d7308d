import java.util.Arrays;
import java.util.NoSuchElementException;

/** A game clock of two sides. What each method promises stands in DOC.md, under the method's name. */
public final class GameClock {
    public static final int NONE = -1;
    public static final int PARSE_ERROR = -4;

    private static final int SIDES = 2;
    private static final int DRAW = 2;

    private static final int NOT_BEGUN = 0;
    private static final int RUNNING = 1;
    private static final int PAUSED = 2;
    private static final int ADJOURNED = 3;
    private static final int OVER = 4;

    private static final int MOVES = 0;
    private static final int TIME = 1;
    private static final int BONUS = 2;
    private static final int DELAY = 3;
    private static final int BACK = 4;
    private static final int PERIOD_NUMBERS = 5;

    private static final int LOG_SIDE = 0;
    private static final int LOG_THINK = 1;
    private static final int LOG_LOST = 2;
    private static final int LOG_GAINS = 3;
    private static final int LOG_LEFT = 4;
    private static final int LOG_TIME = 5;
    private static final int LOG_NUMBERS = 6;

    private static final int MOST_PERIODS = 5;
    private static final int MOST_EXTRAS = 9;
    private static final int MOST_SMALL = 999;
    private static final int MOST_TICKS = 9999;
    private static final int MOST_SESSION = 99999;
    private static final int MOST_PACE_MOVES = 200;
    private static final int MOST_TRIAL_MOVES = 400;
    private static final int LOG_LIMIT = 40;
    private static final int WRITTEN_MOVES = 12;
    private static final int INPUT_LIMIT = 400;
    private static final int APPENDED_BYTES = 20;
    private static final int OUTPUT_LIMIT = 256;
    private static final int UNDO_LIMIT = 6;
    private static final int SLOTS = 2;

    private final Parser parser = new Parser();
    private final Input input = parser.input;
    private final Output output = new Output();
    private final State now = new State();
    private final Trial trial = new Trial();
    private final State[] past = new State[UNDO_LIMIT];
    private int pastCount;
    private int pastNext;
    private final State[] slots = new State[SLOTS];

    public GameClock() {
        for (int i = 0; i < past.length; i++) {
            past[i] = new State();
        }
        for (int i = 0; i < slots.length; i++) {
            slots[i] = new State();
        }
    }

    // The input buffer and load()

    public int append(int a, int b, int c, int d, int e) throws IllegalStateException {
        if (input.length + APPENDED_BYTES > INPUT_LIMIT) {
            throw new IllegalStateException("the input buffer is full");
        }
        input.addFour(a);
        input.addFour(b);
        input.addFour(c);
        input.addFour(d);
        input.addFour(e);
        return input.length;
    }

    public void truncate(int length) throws IllegalArgumentException {
        if (length < 0 || length > input.length) {
            throw new IllegalArgumentException("length is out of range");
        }
        input.length = length;
    }

    public int load() {
        boolean good = parser.readText();
        input.length = 0;
        if (!good) {
            return PARSE_ERROR;
        }
        remember();
        now.setUp(parser.rules, parser.claims);
        if (parser.handSide != NONE) {
            now.sideOf(parser.handSide).left += parser.handTicks;
        }
        return now.rules.periods;
    }

    public int errorCode() {
        return parser.code;
    }

    public int errorPosition() {
        return parser.position;
    }

    // What can be asked of the clock as it is

    public int property(int what) throws IllegalArgumentException {
        switch (what) {
            case 0: return now.phase;
            case 1: return now.toMove;
            case 2: return now.rules.periods;
            case 3: return now.rules.extras;
            case 4: return now.rules.extraTime;
            case 5: return now.rules.sessionLength;
            case 6: return now.sessionTime;
            case 7: return now.time;
            case 8: return now.white.moves + now.black.moves;
            case 9: return now.firstFallen;
            case 10: return now.claims ? 1 : 0;
            case 11: return now.result;
            default: throw new IllegalArgumentException("what is out of range");
        }
    }

    public int period(int period, int what) throws IndexOutOfBoundsException, IllegalArgumentException {
        requirePeriod(period);
        if (what < 0 || what >= PERIOD_NUMBERS) {
            throw new IllegalArgumentException("what is out of range");
        }
        return now.rules.number(period, what);
    }

    public int side(int side, int what) throws IndexOutOfBoundsException, IllegalArgumentException {
        requireSide(side);
        Side asked = now.sideOf(side);
        switch (what) {
            case 0: return asked.left;
            case 1: return asked.moves;
            case 2: return asked.period;
            case 3: return asked.movesInPeriod;
            case 4: return asked.extras;
            case 5: return asked.inExtra ? 1 : 0;
            case 6: return asked.think;
            case 7: return asked.lost;
            case 8: return asked.fell ? 1 : 0;
            case 9: return asked.bare ? 1 : 0;
            case 10: return asked.ran;
            case 11: return asked.movesToPeriodEnd(now.rules);
            default: throw new IllegalArgumentException("what is out of range");
        }
    }

    public int logged(int index, int what) throws IndexOutOfBoundsException, IllegalArgumentException {
        if (index < 0 || index >= now.log.count) {
            throw new IndexOutOfBoundsException("there is no such move in the log");
        }
        if (what < 0 || what >= LOG_NUMBERS) {
            throw new IllegalArgumentException("what is out of range");
        }
        return now.log.number(index, what);
    }

    public int flagIn(int side) throws IndexOutOfBoundsException {
        requireSide(side);
        return now.sideOf(side).ticksToFall(now.rules);
    }

    public int delayLeft(int side) throws IndexOutOfBoundsException {
        requireSide(side);
        return now.sideOf(side).freeTicks(now.rules);
    }

    public int shown(int side) throws IndexOutOfBoundsException {
        requireSide(side);
        int seconds = now.sideOf(side).secondsLeft();
        return 10000 * (seconds / 3600) + 100 * (seconds / 60 % 60) + seconds % 60;
    }

    public int ahead() {
        return now.whiteAhead();
    }

    public float share(int side) throws IndexOutOfBoundsException {
        requireSide(side);
        if (now.time <= 0) {
            return 0.0f;
        }
        return (float) now.sideOf(side).ran / (float) now.time;
    }

    public int finished(int side) throws IndexOutOfBoundsException {
        requireSide(side);
        return now.sideOf(side).finished;
    }

    public int spent(int side, int period) throws IndexOutOfBoundsException {
        requireSide(side);
        requirePeriod(period);
        return numberAt(now.sideOf(side).spent, period);
    }

    // What can be asked of the log

    public int longest(int side) throws IndexOutOfBoundsException {
        requireSide(side);
        return now.log.greatestThink(side);
    }

    public double meanThink(int side) throws IndexOutOfBoundsException {
        requireSide(side);
        int moves = now.log.movesOf(side);
        if (moves <= 0) {
            return 0.0;
        }
        return (double) now.log.sumOf(side, LOG_THINK) / (double) moves;
    }

    public int gained(int side) throws IndexOutOfBoundsException {
        requireSide(side);
        return now.log.sumOf(side, LOG_GAINS);
    }

    public int slowest() {
        return now.log.slowestIndex();
    }

    public int within(int side, int ticks) throws IndexOutOfBoundsException, IllegalArgumentException {
        requireSide(side);
        requireTicks(ticks);
        return now.log.movesWithin(side, ticks);
    }

    // What would be

    public int pace(int side) throws IndexOutOfBoundsException {
        requireSide(side);
        Side asked = now.sideOf(side);
        int moves = asked.movesToPeriodEnd(now.rules);
        if (moves == NONE) {
            return NONE;
        }
        return trial.greatestPace(now.rules, asked, moves);
    }

    public int lasts(int side, int pace) throws IndexOutOfBoundsException, IllegalArgumentException {
        requireSide(side);
        requirePace(pace);
        return trial.movesAt(now.rules, now.sideOf(side), pace, 0, MOST_PACE_MOVES);
    }

    public int paceFor(int side, int moves) throws IndexOutOfBoundsException, IllegalArgumentException {
        requireSide(side);
        requirePaceMoves(moves);
        return trial.greatestPace(now.rules, now.sideOf(side), moves);
    }

    public int needs(int side, int moves, int pace) throws IndexOutOfBoundsException, IllegalArgumentException {
        requireSide(side);
        requirePaceMoves(moves);
        requirePace(pace);
        return trial.leastMore(now.rules, now.sideOf(side), moves, pace);
    }

    public int leftIn(int side, int ticks) throws IndexOutOfBoundsException, IllegalArgumentException {
        requireSide(side);
        requireTicks(ticks);
        Side asked = now.sideOf(side);
        if (now.phase != RUNNING || side != now.toMove) {
            return asked.left;
        }
        return trial.leftBehind(now.rules, asked, ticks);
    }

    public int overIn() {
        Side mover = now.mover();
        if (now.phase != RUNNING || now.claims || mover.fell) {
            return NONE;
        }
        return mover.ticksToFall(now.rules);
    }

    public boolean canSeal() {
        return now.ticksToSealing() == 0;
    }

    public int sealIn() {
        return now.ticksToSealing();
    }

    public int ends(int white, int black) throws IllegalArgumentException {
        requirePace(white);
        requirePace(black);
        if (now.phase != RUNNING) {
            return NONE;
        }
        trial.play(now, white, black, MOST_TRIAL_MOVES);
        return trial.fallen == NONE ? NONE : now.resultOfFall(trial.fallen);
    }

    public int endsAfter(int white, int black) throws IllegalArgumentException {
        requirePace(white);
        requirePace(black);
        if (now.phase != RUNNING) {
            return NONE;
        }
        trial.play(now, white, black, MOST_TRIAL_MOVES);
        return trial.made;
    }

    public int movesIn(int white, int black, int ticks) throws IllegalArgumentException {
        requirePace(white);
        requirePace(black);
        if (ticks < 1 || ticks > MOST_TICKS) {
            throw new IllegalArgumentException("ticks is out of range");
        }
        if (now.phase != RUNNING) {
            return NONE;
        }
        trial.playFor(now, white, black, ticks);
        return trial.made;
    }

    public int aheadAfter(int white, int black, int moves) throws IllegalArgumentException {
        requirePace(white);
        requirePace(black);
        if (moves < 0 || moves > MOST_TRIAL_MOVES) {
            throw new IllegalArgumentException("moves is out of range");
        }
        if (now.phase != RUNNING) {
            return NONE;
        }
        trial.play(now, white, black, moves);
        return trial.white.left - trial.black.left;
    }

    // What changes the game

    public int start() throws IllegalStateException {
        if (now.phase != NOT_BEGUN) {
            throw new IllegalStateException("the game has begun");
        }
        remember();
        now.phase = RUNNING;
        return now.toMove;
    }

    public int tick(int ticks) throws IllegalArgumentException {
        if (ticks < 1 || ticks > MOST_TICKS) {
            throw new IllegalArgumentException("ticks is out of range");
        }
        remember();
        if (now.phase == RUNNING) {
            now.letRun(ticks);
        }
        return now.mover().left;
    }

    public int move() throws IllegalStateException {
        if (now.phase != RUNNING) {
            throw new IllegalStateException("the game is not running");
        }
        remember();
        return now.makeMove();
    }

    public int pause() throws IllegalStateException {
        if (now.phase != RUNNING) {
            throw new IllegalStateException("the game is not running");
        }
        remember();
        now.phase = PAUSED;
        return now.toMove;
    }

    public int proceed() throws IllegalStateException {
        if (now.phase != PAUSED) {
            throw new IllegalStateException("the game is not paused");
        }
        remember();
        now.phase = RUNNING;
        return now.toMove;
    }

    public int seal() throws IllegalStateException {
        if (now.ticksToSealing() != 0) {
            throw new IllegalStateException("sealing is not possible");
        }
        remember();
        now.phase = ADJOURNED;
        return now.toMove;
    }

    public int open() throws IllegalStateException {
        if (now.phase != ADJOURNED) {
            throw new IllegalStateException("the game is not adjourned");
        }
        remember();
        now.phase = RUNNING;
        now.sessionTime = 0;
        return now.makeMove();
    }

    public int claim(int side) throws IndexOutOfBoundsException, IllegalStateException {
        requireSide(side);
        if (now.phase == OVER || !now.sideOf(other(side)).fell) {
            throw new IllegalStateException("there is nothing to claim");
        }
        remember();
        now.endWith(now.sideOf(side).fell ? DRAW : now.resultOfFall(other(side)));
        return now.result;
    }

    public int resign(int side) throws IndexOutOfBoundsException, IllegalStateException {
        requireSide(side);
        if (now.phase == OVER) {
            throw new IllegalStateException("the game is over");
        }
        remember();
        now.endWith(other(side));
        return now.result;
    }

    public int give(int side, int ticks)
            throws IndexOutOfBoundsException, IllegalArgumentException, IllegalStateException {
        requireSide(side);
        if (ticks < -MOST_TICKS || ticks > MOST_TICKS) {
            throw new IllegalArgumentException("ticks is out of range");
        }
        Side given = now.sideOf(side);
        if (now.phase == OVER || given.fell || given.left + ticks < 1) {
            throw new IllegalStateException("the side cannot be given so many ticks");
        }
        remember();
        given.left += ticks;
        return given.left;
    }

    public boolean setBare(int side, boolean bare) throws IndexOutOfBoundsException {
        requireSide(side);
        remember();
        Side changed = now.sideOf(side);
        boolean before = changed.bare;
        changed.bare = bare;
        return before;
    }

    public boolean setClaims(boolean claims) {
        remember();
        boolean before = now.claims;
        now.claims = claims;
        return before;
    }

    public int setPeriod(int period, int what, int value)
            throws IndexOutOfBoundsException, IllegalArgumentException {
        requirePeriod(period);
        if (what < BONUS || what > BACK || value < 0 || value > MOST_SMALL) {
            throw new IllegalArgumentException("what or value is out of range");
        }
        remember();
        int before = now.rules.number(period, what);
        now.rules.setNumber(period, what, value);
        return before;
    }

    public int swap() throws IllegalStateException {
        if (now.phase != NOT_BEGUN && now.phase != PAUSED) {
            throw new IllegalStateException("sides are swapped ahead of the game or in a pause");
        }
        remember();
        now.swapSides();
        return now.whiteAhead();
    }

    // The slots and undo

    public int keep(int slot) throws IndexOutOfBoundsException {
        requireSlot(slot);
        State row = stateAt(slots, slot);
        if (row != null) {
            row.copyFrom(now);
            row.kept = true;
        }
        return now.time;
    }

    public int restore(int slot) throws IndexOutOfBoundsException, IllegalStateException {
        requireSlot(slot);
        State row = stateAt(slots, slot);
        if (row == null || !row.kept) {
            throw new IllegalStateException("nothing is kept in the slot");
        }
        remember();
        now.copyFrom(row);
        return now.time;
    }

    public int undo() throws IllegalStateException {
        if (pastCount <= 0) {
            throw new IllegalStateException("there is nothing to undo");
        }
        pastNext = (pastNext + UNDO_LIMIT - 1) % UNDO_LIMIT;
        pastCount--;
        State row = stateAt(past, pastNext);
        if (row != null) {
            now.copyFrom(row);
        }
        return pastCount;
    }

    public int undoCount() {
        return pastCount;
    }

    // The output buffer

    public int writeClock() {
        output.length = 0;
        writeSide(0);
        output.add(' ');
        writeSide(1);
        return output.length;
    }

    public int writeLog() {
        output.length = 0;
        int first = Math.min(now.log.count, WRITTEN_MOVES) - 1;
        for (int index = first; index >= 0; index--) {
            if (index < first) {
                output.add(' ');
            }
            output.add(now.log.number(index, LOG_SIDE) == 0 ? 'w' : 'b');
            output.addNumber(now.log.number(index, LOG_THINK));
            output.addUnlessZero('+', now.log.number(index, LOG_GAINS));
        }
        return output.length;
    }

    public int writePeriods() {
        output.length = 0;
        for (int period = 0; period < now.rules.periods; period++) {
            if (period > 0) {
                output.add(' ');
            }
            writeMovesOf(period);
            output.add('/');
            output.addNumber(now.rules.number(period, TIME));
            output.addUnlessZero('+', now.rules.number(period, BONUS));
            output.addUnlessZero('d', now.rules.number(period, DELAY));
            output.addUnlessZero('b', now.rules.number(period, BACK));
        }
        return output.length;
    }

    public int outputByte(int index) throws NoSuchElementException {
        if (index < 0 || index >= output.length || index >= output.bytes.length) {
            throw new NoSuchElementException("there is no such byte");
        }
        return output.bytes[index];
    }

    private void writeSide(int side) {
        Side written = now.sideOf(side);
        int seconds = written.secondsLeft();
        output.addNumber(seconds / 3600);
        output.add(':');
        output.addTwoDigits(seconds / 60 % 60);
        output.add(':');
        output.addTwoDigits(seconds % 60);
        if (written.fell) {
            output.add('!');
        }
        for (int extra = 0; extra < written.extras; extra++) {
            output.add('+');
        }
        if (side == now.toMove) {
            output.add('*');
        }
    }

    private void writeMovesOf(int period) {
        if (now.rules.isEndless(period)) {
            output.add('r');
        } else {
            output.addNumber(now.rules.number(period, MOVES));
        }
    }

    /** Takes down the state as it is, in place of the oldest one if there are six, so that undo() finds it. */
    private void remember() {
        State row = stateAt(past, pastNext);
        if (row != null) {
            row.copyFrom(now);
        }
        pastNext = (pastNext + 1) % UNDO_LIMIT;
        pastCount = Math.min(pastCount + 1, UNDO_LIMIT);
    }

    // Arguments that are looked at in many calls

    private void requireSide(int side) {
        if (side < 0 || side >= SIDES) {
            throw new IndexOutOfBoundsException("there is no such side");
        }
    }

    private void requirePeriod(int period) {
        if (period < 0 || period >= now.rules.periods) {
            throw new IndexOutOfBoundsException("there is no such period");
        }
    }

    private void requireSlot(int slot) {
        if (slot < 0 || slot >= SLOTS) {
            throw new IndexOutOfBoundsException("there is no such slot");
        }
    }

    private void requirePace(int pace) {
        if (pace < 1 || pace > MOST_TICKS) {
            throw new IllegalArgumentException("the pace is out of range");
        }
    }

    private void requirePaceMoves(int moves) {
        if (moves < 1 || moves > MOST_PACE_MOVES) {
            throw new IllegalArgumentException("moves is out of range");
        }
    }

    private void requireTicks(int ticks) {
        if (ticks < 0 || ticks > MOST_TICKS) {
            throw new IllegalArgumentException("ticks is out of range");
        }
    }

    // Rows, looked at only where they have an element

    private static int other(int side) {
        return 1 - side;
    }

    private static int numberAt(int[] row, int index) {
        return index >= 0 && index < row.length ? row[index] : 0;
    }

    private static void setNumberAt(int[] row, int index, int value) {
        if (index >= 0 && index < row.length) {
            row[index] = value;
        }
    }

    private static void copyRow(int[] from, int[] to) {
        System.arraycopy(from, 0, to, 0, Math.min(from.length, to.length));
    }

    private static State stateAt(State[] row, int index) {
        return index >= 0 && index < row.length ? row[index] : null;
    }

    /** The bytes that load() reads. */
    private static final class Input {
        final byte[] bytes = new byte[INPUT_LIMIT];
        int length;

        void addFour(int four) {
            for (int shift = 24; shift >= 0; shift -= 8) {
                if (length >= 0 && length < bytes.length) {
                    bytes[length] = (byte) (four >>> shift);
                    length++;
                }
            }
        }

        int byteAt(int index) {
            return index >= 0 && index < length && index < bytes.length ? bytes[index] & 255 : 0;
        }
    }

    /** Reads the input token by token, up to the first error, into rules that become the clock's if there was none. */
    private static final class Parser {
        static final int END = 0;
        static final int BLANK = 1;
        static final int WORD = 2;
        static final int NUMBER = 3;
        static final int SYMBOL = 4;

        static final int CANNOT_STAND = 1;
        static final int OUT_OF_RANGE = 2;
        static final int ONCE_TOO_OFTEN = 3;
        static final int BEHIND_ENDLESS = 4;

        // greater than each number that is in range, and far from an overflow when a digit is put behind it
        static final int TOO_LARGE = 1000000;

        final Input input = new Input();
        final Rules rules = new Rules();
        boolean claims;
        int handSide = NONE;
        int handTicks;
        int code;
        int position = NONE;

        int kind;
        int start;
        int end;
        int value;

        boolean readText() {
            clear();
            readToken();
            if (!isWord("period")) {
                fail(CANNOT_STAND);
            }
            for (int i = 0; i < INPUT_LIMIT && code == 0 && kind != END; i++) {
                if (isWord("period")) {
                    readPeriod();
                } else if (isWord("extra")) {
                    readExtra();
                } else if (isWord("session")) {
                    readSession();
                } else if (isWord("hand")) {
                    readHand();
                } else if (isWord("claims")) {
                    readClaims();
                } else {
                    fail(CANNOT_STAND);
                }
            }
            return code == 0;
        }

        private void clear() {
            rules.clear();
            claims = false;
            handSide = NONE;
            handTicks = 0;
            code = 0;
            position = NONE;
            end = 0;
        }

        private void readPeriod() {
            int period = rules.periods;
            if (period >= MOST_PERIODS) {
                fail(ONCE_TOO_OFTEN);
            } else if (period > 0 && rules.isEndless(period - 1)) {
                fail(BEHIND_ENDLESS);
            }
            takeWord("period");
            takeWord("moves");
            rules.setNumber(period, MOVES, takeNumber(0, 60));
            takeWord("time");
            rules.setNumber(period, TIME, takeNumber(1, 99999));
            rules.setNumber(period, BONUS, takeOption("bonus"));
            rules.setNumber(period, DELAY, takeOption("delay"));
            rules.setNumber(period, BACK, takeOption("back"));
            takeSemicolon();
            rules.periods++;
        }

        private void readExtra() {
            failIf(rules.extras != 0);
            takeWord("extra");
            rules.extras = takeNumber(1, MOST_EXTRAS);
            takeWord("time");
            rules.extraTime = takeNumber(1, 9999);
            takeSemicolon();
        }

        private void readSession() {
            failIf(rules.sessionLength != NONE);
            takeWord("session");
            rules.sessionLength = takeNumber(1, MOST_SESSION);
            takeSemicolon();
        }

        private void readHand() {
            failIf(handSide != NONE);
            takeWord("hand");
            if (isWord("white")) {
                handSide = 0;
                takeWord("white");
            } else {
                handSide = 1;
                takeWord("black");
            }
            handTicks = takeNumber(1, 9999);
            takeSemicolon();
        }

        private void readClaims() {
            failIf(claims);
            takeWord("claims");
            takeSemicolon();
            claims = true;
        }

        private void failIf(boolean seenAlready) {
            if (seenAlready) {
                fail(ONCE_TOO_OFTEN);
            }
        }

        /** Only the first error counts; behind it no token is taken any more. */
        private void fail(int error) {
            if (code == 0) {
                code = error;
                position = start;
            }
        }

        private void takeWord(String word) {
            if (!isWord(word)) {
                fail(CANNOT_STAND);
            }
            if (code == 0) {
                readToken();
            }
        }

        private void takeSemicolon() {
            if (kind != SYMBOL || value != ';') {
                fail(CANNOT_STAND);
            }
            if (code == 0) {
                readToken();
            }
        }

        private int takeNumber(int least, int most) {
            if (kind != NUMBER) {
                fail(CANNOT_STAND);
            } else if (value < least || value > most) {
                fail(OUT_OF_RANGE);
            }
            if (code != 0) {
                return 0;
            }
            int number = value;
            readToken();
            return number;
        }

        private int takeOption(String word) {
            if (code != 0 || !isWord(word)) {
                return 0;
            }
            takeWord(word);
            return takeNumber(0, MOST_SMALL);
        }

        private boolean isWord(String word) {
            if (kind != WORD || end - start != word.length()) {
                return false;
            }
            for (int i = 0; i < word.length(); i++) {
                if (input.byteAt(start + i) != word.charAt(i)) {
                    return false;
                }
            }
            return true;
        }

        private void readToken() {
            start = end;
            while (start < input.length && kindOf(input.byteAt(start)) == BLANK) {
                start++;
            }
            end = start;
            value = 0;
            if (start >= input.length) {
                kind = END;
                return;
            }
            kind = kindOf(input.byteAt(start));
            if (kind == SYMBOL) {
                value = input.byteAt(start);
                end = start + 1;
                return;
            }
            while (end < input.length && kindOf(input.byteAt(end)) == kind) {
                if (kind == NUMBER) {
                    value = Math.min(10 * value + input.byteAt(end) - '0', TOO_LARGE);
                }
                end++;
            }
        }

        private static int kindOf(int sign) {
            if (sign == ' ' || sign == '\n') {
                return BLANK;
            }
            if (sign >= 'a' && sign <= 'z') {
                return WORD;
            }
            return sign >= '0' && sign <= '9' ? NUMBER : SYMBOL;
        }
    }

    /** The bytes that outputByte() tells. */
    private static final class Output {
        final byte[] bytes = new byte[OUTPUT_LIMIT];
        int length;

        void add(char sign) {
            if (length >= 0 && length < bytes.length) {
                bytes[length] = (byte) sign;
                length++;
            }
        }

        void addNumber(int number) {
            long rest = number;
            if (rest < 0) {
                add('-');
                rest = -rest;
            }
            long unit = 1;
            for (int digits = 1; digits < 10 && 10 * unit <= rest; digits++) {
                unit = 10 * unit;
            }
            for (int digits = 0; digits < 10 && unit > 0; digits++) {
                add((char) ('0' + rest / unit % 10));
                unit = unit / 10;
            }
        }

        void addTwoDigits(int number) {
            if (number < 10) {
                add('0');
            }
            addNumber(number);
        }

        void addUnlessZero(char sign, int number) {
            if (number != 0) {
                add(sign);
                addNumber(number);
            }
        }
    }

    /** What the text tells of the periods, the extra periods and the session. */
    private static final class Rules {
        final int[] numbers = new int[MOST_PERIODS * PERIOD_NUMBERS];
        int periods;
        int extras;
        int extraTime;
        int sessionLength = NONE;

        void clear() {
            Arrays.fill(numbers, 0);
            periods = 0;
            extras = 0;
            extraTime = 0;
            sessionLength = NONE;
        }

        void copyFrom(Rules from) {
            copyRow(from.numbers, numbers);
            periods = from.periods;
            extras = from.extras;
            extraTime = from.extraTime;
            sessionLength = from.sessionLength;
        }

        int number(int period, int what) {
            int index = period * PERIOD_NUMBERS + what;
            return index >= 0 && index < numbers.length ? numbers[index] : 0;
        }

        void setNumber(int period, int what, int value) {
            setNumberAt(numbers, period * PERIOD_NUMBERS + what, value);
        }

        boolean isEndless(int period) {
            return number(period, MOVES) == 0;
        }
    }

    /** What one side has; swap() exchanges the sides whole. */
    private static final class Side {
        final int[] spent = new int[MOST_PERIODS];
        int left;
        int period;
        int moves;
        int movesInPeriod;
        int extras;
        boolean inExtra;
        int think;
        int lost;
        boolean fell;
        boolean bare;
        int ran;
        int finished;

        void setUp(Rules rules) {
            Arrays.fill(spent, 0);
            left = rules.number(0, TIME);
            period = 0;
            moves = 0;
            movesInPeriod = 0;
            extras = rules.extras;
            inExtra = false;
            think = 0;
            lost = 0;
            fell = false;
            bare = false;
            ran = 0;
            finished = 0;
        }

        void copyFrom(Side from) {
            copyRow(from.spent, spent);
            left = from.left;
            period = from.period;
            moves = from.moves;
            movesInPeriod = from.movesInPeriod;
            extras = from.extras;
            inExtra = from.inExtra;
            think = from.think;
            lost = from.lost;
            fell = from.fell;
            bare = from.bare;
            ran = from.ran;
            finished = from.finished;
        }

        int movesToPeriodEnd(Rules rules) {
            return rules.isEndless(period) ? NONE : rules.number(period, MOVES) - movesInPeriod;
        }

        /** The ticks of the delay that are left in this move. */
        int freeTicks(Rules rules) {
            return Math.max(0, rules.number(period, DELAY) - think);
        }

        int ticksToFall(Rules rules) {
            if (fell) {
                return 0;
            }
            int further = rules.isEndless(period) ? extras * rules.extraTime : 0;
            return freeTicks(rules) + left + further;
        }

        int secondsLeft() {
            return left / 10 + (left % 10 > 0 ? 1 : 0);
        }

        /** Many ticks at once: the delay takes the first ones, then what is left, then one extra after the other. */
        void run(Rules rules, int ticks) {
            int costly = Math.max(0, ticks - freeTicks(rules));
            think += ticks;
            ran += ticks;
            for (int i = 0; i <= MOST_EXTRAS && costly > 0 && left > 0; i++) {
                int part = Math.min(costly, left);
                costly -= part;
                left -= part;
                lost += part;
                setNumberAt(spent, period, numberAt(spent, period) + part);
                if (left == 0) {
                    runOut(rules);
                }
            }
        }

        private void runOut(Rules rules) {
            if (rules.isEndless(period) && extras > 0) {
                extras--;
                inExtra = true;
                left = rules.extraTime;
            } else {
                fell = true;
            }
        }

        private int gains(Rules rules) {
            if (fell) {
                return 0;
            }
            if (inExtra) {
                return rules.extraTime - left;
            }
            return rules.number(period, BONUS) + Math.min(lost, rules.number(period, BACK));
        }

        int finishMove(Rules rules) {
            int gains = gains(rules);
            left += gains;
            moves++;
            movesInPeriod++;
            if (movesToPeriodEnd(rules) == 0) {
                beginNextPeriod(rules);
            }
            dropMove();
            return gains;
        }

        private void beginNextPeriod(Rules rules) {
            finished++;
            period = Math.min(period + 1, rules.periods - 1);
            movesInPeriod = 0;
            if (!fell) {
                left += rules.number(period, TIME);
            }
        }

        void dropMove() {
            think = 0;
            lost = 0;
        }
    }

    /** The last moves; index 0 is the latest one. */
    private static final class Log {
        final int[] numbers = new int[LOG_LIMIT * LOG_NUMBERS];
        int count;
        int newest;

        void clear() {
            count = 0;
            newest = 0;
        }

        void copyFrom(Log from) {
            copyRow(from.numbers, numbers);
            count = from.count;
            newest = from.newest;
        }

        void add(int side, int think, int lost, int gains, int left, int time) {
            newest = (newest + 1) % LOG_LIMIT;
            count = Math.min(count + 1, LOG_LIMIT);
            int row = newest * LOG_NUMBERS;
            setNumberAt(numbers, row + LOG_SIDE, side);
            setNumberAt(numbers, row + LOG_THINK, think);
            setNumberAt(numbers, row + LOG_LOST, lost);
            setNumberAt(numbers, row + LOG_GAINS, gains);
            setNumberAt(numbers, row + LOG_LEFT, left);
            setNumberAt(numbers, row + LOG_TIME, time);
        }

        int number(int index, int what) {
            int row = (newest + LOG_LIMIT - index) % LOG_LIMIT;
            return numberAt(numbers, row * LOG_NUMBERS + what);
        }

        int movesOf(int side) {
            int moves = 0;
            for (int index = 0; index < count; index++) {
                if (number(index, LOG_SIDE) == side) {
                    moves++;
                }
            }
            return moves;
        }

        int movesWithin(int side, int ticks) {
            int moves = 0;
            for (int index = 0; index < count; index++) {
                if (number(index, LOG_SIDE) == side && number(index, LOG_THINK) <= ticks) {
                    moves++;
                }
            }
            return moves;
        }

        int sumOf(int side, int what) {
            int sum = 0;
            for (int index = 0; index < count; index++) {
                if (number(index, LOG_SIDE) == side) {
                    sum += number(index, what);
                }
            }
            return sum;
        }

        int greatestThink(int side) {
            int greatest = 0;
            for (int index = 0; index < count; index++) {
                if (number(index, LOG_SIDE) == side) {
                    greatest = Math.max(greatest, number(index, LOG_THINK));
                }
            }
            return greatest;
        }

        int slowestIndex() {
            int slowest = NONE;
            for (int index = 0; index < count; index++) {
                if (slowest == NONE || number(index, LOG_THINK) > number(slowest, LOG_THINK)) {
                    slowest = index;
                }
            }
            return slowest;
        }
    }

    /** Everything that undo() restores and that a slot keeps. */
    private static final class State {
        final Rules rules = new Rules();
        final Log log = new Log();
        Side white = new Side();
        Side black = new Side();
        boolean claims;
        int phase;
        int toMove;
        int result = NONE;
        int firstFallen = NONE;
        int time;
        int sessionTime;
        // told of a slot alone, and no part of what is copied
        boolean kept;

        /** The clock ahead of the first text. */
        State() {
            rules.periods = 1;
            rules.setNumber(0, TIME, 3000);
            white.setUp(rules);
            black.setUp(rules);
        }

        void setUp(Rules read, boolean readClaims) {
            rules.copyFrom(read);
            log.clear();
            white.setUp(rules);
            black.setUp(rules);
            claims = readClaims;
            phase = NOT_BEGUN;
            toMove = 0;
            result = NONE;
            firstFallen = NONE;
            time = 0;
            sessionTime = 0;
        }

        void copyFrom(State from) {
            rules.copyFrom(from.rules);
            log.copyFrom(from.log);
            white.copyFrom(from.white);
            black.copyFrom(from.black);
            claims = from.claims;
            phase = from.phase;
            toMove = from.toMove;
            result = from.result;
            firstFallen = from.firstFallen;
            time = from.time;
            sessionTime = from.sessionTime;
        }

        Side sideOf(int side) {
            return side == 0 ? white : black;
        }

        Side mover() {
            return sideOf(toMove);
        }

        int whiteAhead() {
            return white.left - black.left;
        }

        void swapSides() {
            Side first = white;
            white = black;
            black = first;
        }

        /** The result, if this side's flag ends the game or is claimed by the other side. */
        int resultOfFall(int side) {
            return sideOf(other(side)).bare ? DRAW : other(side);
        }

        void endWith(int ended) {
            phase = OVER;
            result = ended;
        }

        int ticksToSealing() {
            if (phase != RUNNING || rules.sessionLength == NONE) {
                return NONE;
            }
            return Math.max(0, rules.sessionLength - sessionTime);
        }

        void letRun(int ticks) {
            Side mover = mover();
            boolean fellBefore = mover.fell;
            int passing = ticks;
            if (!claims && !fellBefore) {
                // the flag ends the game, and the ticks behind its fall change nothing
                passing = Math.min(ticks, mover.ticksToFall(rules));
            }
            time += passing;
            sessionTime += passing;
            mover.run(rules, passing);
            if (mover.fell && !fellBefore) {
                noteFall();
            }
        }

        private void noteFall() {
            if (firstFallen == NONE) {
                firstFallen = toMove;
            }
            if (!claims) {
                endWith(resultOfFall(toMove));
            }
        }

        int makeMove() {
            Side mover = mover();
            int think = mover.think;
            int lost = mover.lost;
            int gains = mover.finishMove(rules);
            log.add(toMove, think, lost, gains, mover.left, time);
            toMove = other(toMove);
            return gains;
        }
    }

    /** Sides to try things on, so that methods that ask what would be leave the clock alone. */
    private static final class Trial {
        // a move takes a tick at least, but each side's first one none if its think is long enough already:
        // behind swap() both sides can have a think
        static final int MOST_MOVES_IN_TICKS = MOST_TICKS + SIDES;
        // what the moves of a trial take at the slowest pace, so that their number alone ends it
        static final int ENOUGH_TICKS = MOST_TRIAL_MOVES * MOST_TICKS;
        static final int MOST_MORE = 99999;
        // enough halvings for each search here
        static final int HALVINGS = 20;

        final Side white = new Side();
        final Side black = new Side();
        int toMove;
        int made;
        int ticksLeft;
        int fallen;

        int leftBehind(Rules rules, Side from, int ticks) {
            white.copyFrom(from);
            white.run(rules, ticks);
            return white.left;
        }

        /** How many moves, up to a limit, the side makes at a pace from now on, with so many ticks more. */
        int movesAt(Rules rules, Side from, int pace, int more, int limit) {
            if (from.fell) {
                return 0;
            }
            white.copyFrom(from);
            white.dropMove();
            white.left += more;
            int moves = 0;
            while (moves < limit) {
                white.run(rules, pace);
                if (white.fell) {
                    return moves;
                }
                white.finishMove(rules);
                moves++;
            }
            return moves;
        }

        /** A slower pace never makes more moves, so the greatest pace is found by halving. */
        int greatestPace(Rules rules, Side from, int moves) {
            int good = 0;
            int bad = MOST_TICKS + 1;
            for (int i = 0; i < HALVINGS && bad - good > 1; i++) {
                int pace = (good + bad) / 2;
                if (movesAt(rules, from, pace, 0, moves) >= moves) {
                    good = pace;
                } else {
                    bad = pace;
                }
            }
            return good == 0 ? NONE : good;
        }

        /** More ticks never make fewer moves, so the least number is found by halving. */
        int leastMore(Rules rules, Side from, int moves, int pace) {
            int bad = -1;
            int good = MOST_MORE + 1;
            for (int i = 0; i < HALVINGS && good - bad > 1; i++) {
                int more = (good + bad) / 2;
                if (movesAt(rules, from, pace, more, moves) >= moves) {
                    good = more;
                } else {
                    bad = more;
                }
            }
            return good > MOST_MORE ? NONE : good;
        }

        /** Both sides move at their paces until a flag falls or so many moves are made. */
        void play(State from, int whitePace, int blackPace, int moves) {
            begin(from, ENOUGH_TICKS);
            for (int i = 0; i < moves && canMove(from.rules, whitePace, blackPace); i++) {
                finishMove(from.rules);
            }
        }

        /** Both sides move at their paces until a flag falls or so many ticks have passed. */
        void playFor(State from, int whitePace, int blackPace, int ticks) {
            begin(from, ticks);
            for (int i = 0; i < MOST_MOVES_IN_TICKS && canMove(from.rules, whitePace, blackPace); i++) {
                finishMove(from.rules);
            }
        }

        private void begin(State from, int ticks) {
            white.copyFrom(from.white);
            black.copyFrom(from.black);
            toMove = from.toMove;
            made = 0;
            ticksLeft = ticks;
            fallen = NONE;
        }

        /** Lets the mover think up to its pace; false if its flag falls by then, or the ticks do not suffice. */
        private boolean canMove(Rules rules, int whitePace, int blackPace) {
            Side mover = toMove == 0 ? white : black;
            int thinking = Math.max(0, (toMove == 0 ? whitePace : blackPace) - mover.think);
            if (thinking > ticksLeft) {
                return false;
            }
            boolean fellBefore = mover.fell;
            mover.run(rules, thinking);
            ticksLeft -= thinking;
            if (mover.fell && !fellBefore) {
                fallen = toMove;
                return false;
            }
            return true;
        }

        private void finishMove(Rules rules) {
            if (toMove == 0) {
                white.finishMove(rules);
            } else {
                black.finishMove(rules);
            }
            toMove = other(toMove);
            made++;
        }
    }
}
